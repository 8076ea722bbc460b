set_option maxRecDepth 100000 in
theorem m_share (l : Launch) {S : pv_M} {A : Ab} {j : Nat} (hS : GS S) (hM : MSt S A) (hj : j < 3) (hG : gdR (A.1.1 j)) {m : Nat} (hm : m ≤ 20) : mt l MX12_share 106 [.ref 75, .int (nI (j)), .int (nI (m))] S (fun v S' => v = some (.double (shV (rT A j) (rF A j) m)) ∧ mI S' 75 0 = nI 0 ∧ MSt S' (A) ∧ FN mC S S') := by
  refine mt_of (by decide) (Nat.le_of_ble_eq_true rfl) ?_
  intro x hl hR hmL C E
  show GG x 106 0 0 [.ref 75, .int (nI (j)), .int (nI (m))] [] S 0
  refine g_aload_n C dX12_share_0 rfl ?_
  refine g_iload_n C dX12_share_1 rfl ?_
  refine g_callS C (k_isRegister _ hj) so_X12_106 dX12_share_2 rfl rfl (rm_ok (M' := MX12_share) hR (by decide)) (Nat.le_of_ble_eq_true rfl) (fun v9 S9 h9 => ?_)
  obtain ⟨rfl, h9⟩ := h9
  refine g_S S h9 ?_
  refine g_n0 [.int (bI (true)), .ref 75] rfl rfl rfl ?_
  refine b_if_ne C 12 dX12_share_5 (fun h5 => ?_) (fun h5 => absurd h5 (by decide))
  refine g_iload_n C dX12_share_12 rfl ?_
  refine n_iconst C 0 dX12_share_13 ?_
  refine n_bipush C 20 dX12_share_14 ?_
  refine g_callS C (k_in _ (in_lo (by omega)) (in_hi (m := 21) (by omega) (by decide))) so_X12_102 dX12_share_16 rfl rfl (rm_ok (M' := MX12_share) hR (by decide)) (Nat.le_of_ble_eq_true rfl) (fun v9 S9 h9 => ?_)
  obtain ⟨rfl, h9⟩ := h9
  refine g_S S h9 ?_
  refine g_n0 [.int (bI (true)), .ref 75] rfl rfl rfl ?_
  refine b_if_ne C 26 dX12_share_19 (fun h19 => ?_) (fun h19 => absurd h19 (by decide))
  refine n_iconst C 0 dX12_share_26 ?_
  refine g_putI C fo_X12_98 dX12_share_27 rfl (by decide) rfl ?_
  refine g_aload_n C dX12_share_30 rfl ?_
  refine g_getI C (a := (nI (0))) fo_X12_98 dX12_share_31 rfl (by decide) (fun _ => rfl) rfl ?_
  refine n_if_eq C 41 dX12_share_34 (fun h34 => ?_) (fun h34 => absurd h34 (by decide))
  refine g_aload_n C dX12_share_41 rfl ?_
  refine g_iload_n C dX12_share_42 rfl ?_
  refine g_iload_n C dX12_share_43 rfl ?_
  refine g_callV C (As := [.int (nI (j)), .int (nI (m))]) (k_shareOf _ (hS.fn (th_fs (c := 0)).1) (hM.fs (th_fs (c := 0))) hj hG hm) vo_X12_282 dX12_share_44 rfl rfl (by decide) rfl (rm_ok (M' := MX12_share) hR (by decide)) (Nat.le_of_ble_eq_true rfl) (fun v9 S9 h9 => ?_)
  obtain ⟨rfl, g1⟩ := h9
  refine g_n0 [.double (shV (rT A j) (rF A j) m)] rfl rfl rfl ?_
  exact g_dret C E dX12_share_47 (by rw [hR]; decide) (by rw [hR]; decide) ⟨rfl, by rw [(g1.2 75 (by decide)).1]; exact th_0, (hM.fs (th_fs (c := 0))).fs (FT.fn g1 (fun r z => by have z : r = 102 ∨ r = 103 := z; omega)).1, (th_fs (c := 0)).mC.tr (FT.fn g1 (fun r z => by have z : r = 102 ∨ r = 103 := z; omega)).1.mC⟩

set_option maxRecDepth 100000 in
theorem m_share_r (l : Launch) {S : pv_M} {p : Int32} (hS : GS S) (h : badI p 3) {q : Int32} : mt l MX12_share 106 [.ref 75, .int (p), .int (q)] S (fun v S' => v = some (.double FP.dconst0) ∧ S' = th S 1) := by
  refine mt_of (by decide) (Nat.le_of_ble_eq_true rfl) ?_
  intro x hl hR hmL C E
  show GG x 106 0 0 [.ref 75, .int (p), .int (q)] [] S 0
  refine g_aload_n C dX12_share_0 rfl ?_
  refine g_iload_n C dX12_share_1 rfl ?_
  refine g_callS C (k_isRegisterF _ h) so_X12_106 dX12_share_2 rfl rfl (rm_ok (M' := MX12_share) hR (by decide)) (Nat.le_of_ble_eq_true rfl) (fun v9 S9 h9 => ?_)
  obtain ⟨rfl, h9⟩ := h9
  refine g_S S h9 ?_
  refine g_n0 [.int (bI (false)), .ref 75] rfl rfl rfl ?_
  refine b_if_ne C 12 dX12_share_5 (fun h5 => absurd h5 (by decide)) (fun h5 => ?_)
  refine n_iconst C 1 dX12_share_8 ?_
  refine g_goto C 27 dX12_share_9 (by decide) ?_
  refine g_putI C fo_X12_98 dX12_share_27 rfl (by decide) rfl ?_
  refine g_aload_n C dX12_share_30 rfl ?_
  refine g_getI C (a := (nI (1))) fo_X12_98 dX12_share_31 rfl (by decide) (fun _ => rfl) rfl ?_
  refine n_if_eq C 41 dX12_share_34 (fun h34 => absurd h34 (by decide)) (fun h34 => ?_)
  refine g_dconst0 C dX12_share_37 ?_
  refine g_goto C 47 dX12_share_38 (by decide) ?_
  exact g_dret C E dX12_share_47 (by rw [hR]; decide) (by rw [hR]; decide) ⟨rfl, rfl⟩

set_option maxRecDepth 100000 in
theorem m_share_n (l : Launch) {S : pv_M} {j : Nat} {p : Int32} (hS : GS S) (hj : j < 3) (h : badI p 21) : mt l MX12_share 106 [.ref 75, .int (nI (j)), .int (p)] S (fun v S' => v = some (.double FP.dconst0) ∧ S' = th S 2) := by
  refine mt_of (by decide) (Nat.le_of_ble_eq_true rfl) ?_
  intro x hl hR hmL C E
  show GG x 106 0 0 [.ref 75, .int (nI (j)), .int (p)] [] S 0
  refine g_aload_n C dX12_share_0 rfl ?_
  refine g_iload_n C dX12_share_1 rfl ?_
  refine g_callS C (k_isRegister _ hj) so_X12_106 dX12_share_2 rfl rfl (rm_ok (M' := MX12_share) hR (by decide)) (Nat.le_of_ble_eq_true rfl) (fun v9 S9 h9 => ?_)
  obtain ⟨rfl, h9⟩ := h9
  refine g_S S h9 ?_
  refine g_n0 [.int (bI (true)), .ref 75] rfl rfl rfl ?_
  refine b_if_ne C 12 dX12_share_5 (fun h5 => ?_) (fun h5 => absurd h5 (by decide))
  refine g_iload_n C dX12_share_12 rfl ?_
  refine n_iconst C 0 dX12_share_13 ?_
  refine n_bipush C 20 dX12_share_14 ?_
  refine g_callS C (k_inF _ (in_badP h (by decide) (by decide))) so_X12_102 dX12_share_16 rfl rfl (rm_ok (M' := MX12_share) hR (by decide)) (Nat.le_of_ble_eq_true rfl) (fun v9 S9 h9 => ?_)
  obtain ⟨rfl, h9⟩ := h9
  refine g_S S h9 ?_
  refine g_n0 [.int (bI (false)), .ref 75] rfl rfl rfl ?_
  refine b_if_ne C 26 dX12_share_19 (fun h19 => absurd h19 (by decide)) (fun h19 => ?_)
  refine n_iconst C 2 dX12_share_22 ?_
  refine g_goto C 27 dX12_share_23 (by decide) ?_
  refine g_putI C fo_X12_98 dX12_share_27 rfl (by decide) rfl ?_
  refine g_aload_n C dX12_share_30 rfl ?_
  refine g_getI C (a := (nI (2))) fo_X12_98 dX12_share_31 rfl (by decide) (fun _ => rfl) rfl ?_
  refine n_if_eq C 41 dX12_share_34 (fun h34 => absurd h34 (by decide)) (fun h34 => ?_)
  refine g_dconst0 C dX12_share_37 ?_
  refine g_goto C 47 dX12_share_38 (by decide) ?_
  exact g_dret C E dX12_share_47 (by rw [hR]; decide) (by rw [hR]; decide) ⟨rfl, rfl⟩

theorem mF_wF {S : pv_M} {i : Nat} {f : Nat → UInt32} : mF (wF S i f) i = f := by simp [mF, wF, va_up]
theorem mD_wD {S : pv_M} {i : Nat} {f : Nat → UInt64} : mD (wD S i f) i = f := by simp [mD, wD, va_up]
abbrev rK : Nat → Prop := fun r => (80 ≤ r ∧ r ≤ 83) ∨ r = 102 ∨ r = 103
theorem MSt.anyR {S S' : pv_M} {A : Ab} (h : MSt S A) (k : FN rK S S') : MSt S' (A.1, A.2.1, (fun j => (xN_ (mI S' 80 j), xN_ (mI S' 81 j))), mF S' 82, mD S' 83) :=
  have q : ∀ r, ¬ rK r → mI S' r = mI S r := fun r hr => (k.2 r hr).1
  ⟨h.1.keep (q 76 (by decide)) (q 77 (by decide)) (q 78 (by decide)), h.2.1.keep (by rw [q 75 (by decide)]) (q 79 (by decide)), by rw [q 75 (by decide)]; exact h.2.2.1, h.2.2.2.1.keep (q 84 (by decide)) (q 85 (by decide)) (q 86 (by decide)), h.2.2.2.2.1.keep (by rw [q 75 (by decide)]) (q 87 (by decide)), fun j _ => ⟨nI_xN _, nI_xN _⟩, rfl, rfl⟩
theorem MSt.setRw {S S' : pv_M} {A : Ab} {r : Rw} (h : MSt S A) (k : FN rK S S') (hr : RwM S' r) : MSt S' (A.1, A.2.1, r) :=
  have g := h.anyR k
  ⟨g.1, g.2.1, g.2.2.1, g.2.2.2.1, g.2.2.2.2.1, hr⟩

set_option maxRecDepth 100000 in
theorem lp_ks {x : Cx} (hR : xR x = MX12_keepShares.rm) (hmL : (xc x).maxLocals = MX12_keepShares.nL) (C : BX x cX12_keepShares RX12) {S0 : pv_M} {A : Ab} {j p m : Nat} {b : Bool} (hS0 : GS S0) (hM0 : MSt S0 A) (hj : j < 3) (hG : gdR (A.1.1 j)) (hp : p < 2) (hm : m ≤ 20) (kk : ∀ S : pv_M, FN (fun r => r = 82 ∨ r = 83 ∨ r = 102 ∨ r = 103) S0 S → mF S 82 = reg (21 * p) (m + 1) (fun i => FP.d2f (shV (rT A j) (rF A j) i)) (mF S0 82) → mD S 83 = reg (21 * p) (m + 1) (fun i => shV (rT A j) (rF A j) i) (mD S0 83) → GG x 106 0 0 [.ref 75, .int (nI (p)), .int (nI (j)), .int (nI (m)), .int (bI (b)), .int (nI (m + 1))] [] (S) 131) : ∀ z i (S : pv_M), i + z = m + 1 → FN (fun r => r = 82 ∨ r = 83 ∨ r = 102 ∨ r = 103) S0 S → mF S 82 = reg (21 * p) (i) (fun i => FP.d2f (shV (rT A j) (rF A j) i)) (mF S0 82) → mD S 83 = reg (21 * p) (i) (fun i => shV (rT A j) (rF A j) i) (mD S0 83) → GG x 106 0 0 [.ref 75, .int (nI (p)), .int (nI (j)), .int (nI (m)), .int (bI (b)), .int (nI (i))] [] (S) 75 := by
  intro z
  induction z with
  | zero =>
    intro i S hz hf hF hD
    obtain rfl : m + 1 = i := by omega
    have hS := hS0.fn hf
    have hM := hM0.anyR (hf.mono (fun r z => by have z : r = 82 ∨ r = 83 ∨ r = 102 ∨ r = 103 := z; show (80 ≤ r ∧ r ≤ 83) ∨ r = 102 ∨ r = 103; omega))
    refine g_iload C dX12_keepShares_75 rfl ?_
    refine g_iload_n C dX12_keepShares_77 rfl ?_
    refine n_ic_gt C 131 dX12_keepShares_78 (fun h78 => ?_) (fun h78 => absurd h78 (by omega))
    exact kk S hf hF hD
  | succ z ih =>
    intro i S hz hf hF hD
    obtain ⟨mm, hpf, _, _⟩ := shF_ok (T := rT A j) (F := rF A j) (k := i) (by omega)
    have hS := hS0.fn hf
    have hM := hM0.anyR (hf.mono (fun r z => by have z : r = 82 ∨ r = 83 ∨ r = 102 ∨ r = 103 := z; show (80 ≤ r ∧ r ≤ 83) ∨ r = 102 ∨ r = 103; omega))
    refine g_iload C dX12_keepShares_75 rfl ?_
    refine g_iload_n C dX12_keepShares_77 rfl ?_
    refine n_ic_gt C 131 dX12_keepShares_78 (fun h78 => absurd h78 (by omega)) (fun h78 => ?_)
    refine g_aload_n C dX12_keepShares_81 rfl ?_
    refine g_getR C fo_X12_33 dX12_keepShares_82 rfl (by decide) (fun _ => rfl) (gs_75_9 hS) ?_
    refine n_bipush C 21 dX12_keepShares_85 ?_
    refine g_iload_n C dX12_keepShares_87 rfl ?_
    refine n_imul C dX12_keepShares_88 ?_
    refine g_iload C dX12_keepShares_89 rfl ?_
    refine n_iadd C dX12_keepShares_91 ?_
    refine g_aload_n C dX12_keepShares_92 rfl ?_
    refine g_iload_n C dX12_keepShares_93 rfl ?_
    refine g_iload C dX12_keepShares_94 rfl ?_
    refine g_callV C (As := [.int (nI (j)), .int (nI (i))]) (k_shareOf _ hS hM hj hG (m := i) (by omega)) vo_X12_282 dX12_keepShares_96 rfl rfl (by decide) rfl (rm_ok (M' := MX12_keepShares) hR (by decide)) (Nat.le_of_ble_eq_true rfl) (fun v9 S9 h9 => ?_)
    obtain ⟨rfl, g1⟩ := h9
    have hS9 := hS.fn g1
    refine g_n0 [.double (shV (rT A j) (rF A j) i), .int (nI (((21) * (p)) + (i))), .ref 83] rfl rfl rfl ?_
    refine g_dast C dX12_keepShares_99 rfl (by decide) (by omega) rfl ?_
    refine g_aload_n C dX12_keepShares_100 rfl ?_
    refine g_getR C fo_X12_29 dX12_keepShares_101 rfl (by decide) (fun _ => rfl) (gs_75_8 hS9) ?_
    refine n_bipush C 21 dX12_keepShares_104 ?_
    refine g_iload_n C dX12_keepShares_106 rfl ?_
    refine n_imul C dX12_keepShares_107 ?_
    refine g_iload C dX12_keepShares_108 rfl ?_
    refine n_iadd C dX12_keepShares_110 ?_
    refine g_aload_n C dX12_keepShares_111 rfl ?_
    refine g_getR C fo_X12_33 dX12_keepShares_112 rfl (by decide) (fun _ => rfl) (gs_75_9 hS9) ?_
    refine n_bipush C 21 dX12_keepShares_115 ?_
    refine g_iload_n C dX12_keepShares_117 rfl ?_
    refine n_imul C dX12_keepShares_118 ?_
    refine g_iload C dX12_keepShares_119 rfl ?_
    refine n_iadd C dX12_keepShares_121 ?_
    refine n_dald C (v := shV (rT A j) (rF A j) i) dX12_keepShares_122 rfl (by decide) (up_same (f := mD S9 83)) ?_ (by omega)
    refine g_d2f C dX12_keepShares_123 hpf.ok ?_
    refine g_fast C dX12_keepShares_124 rfl (by decide) (by omega) rfl ?_
    refine n_iinc C (by rw [hmL]; decide) dX12_keepShares_125 rfl (n_i1 _) [.ref 75, .int (nI (p)), .int (nI (j)), .int (nI (m)), .int (bI (b)), .int (nI (i + 1))] ?_
    refine g_goto C 75 dX12_keepShares_128 (by decide) ?_
    refine ih (i + 1) _ (by omega) (((hf.tr (g1.mono (fun r z => by have z : r = 102 ∨ r = 103 := z; omega))).tr (FN.wD (by decide))).tr (FN.wF (by decide))) ?_ ?_
    · show va_up (mF S9 82) _ _ = _
      rw [(g1.2 82 (by decide)).2.2.1, hF]
      exact reg_up (by omega) rfl
    · show va_up (mD S9 83) _ _ = _
      rw [(g1.2 83 (by decide)).2.2.2, hD]
      exact reg_up (by omega) rfl

set_option maxRecDepth 100000 in
theorem m_keepShares (l : Launch) {S : pv_M} {A : Ab} {j : Nat} (hS : GS S) (hM : MSt S A) (hj : j < 3) (hG : gdR (A.1.1 j)) {p m : Nat} {b : Bool} (hp : p < 2) (hm : m ≤ 20) : mt l MX12_keepShares 106 [.ref 75, .int (nI (p)), .int (nI (j)), .int (nI (m)), .int (bI (b))] S (fun v S' => v = none ∧ mI S' 75 0 = nI 0 ∧ MSt S' (A.1, A.2.1, kRw A.2.2 p b (rT A j) (rF A j) m) ∧ FN mC S S') := by
  refine mt_of (by decide) (Nat.le_of_ble_eq_true rfl) ?_
  intro x hl hR hmL C E
  show GG x 106 0 0 [.ref 75, .int (nI (p)), .int (nI (j)), .int (nI (m)), .int (bI (b)), unk] [] S 0
  refine g_aload_n C dX12_keepShares_0 rfl ?_
  refine g_iload_n C dX12_keepShares_1 rfl ?_
  refine n_iconst C 0 dX12_keepShares_2 ?_
  refine n_iconst C 1 dX12_keepShares_3 ?_
  refine g_callS C (k_in _ (in_lo (by omega)) (in_hi (m := 2) hp (by decide))) so_X12_102 dX12_keepShares_4 rfl rfl (rm_ok (M' := MX12_keepShares) hR (by decide)) (Nat.le_of_ble_eq_true rfl) (fun v9 S9 h9 => ?_)
  obtain ⟨rfl, h9⟩ := h9
  refine g_S S h9 ?_
  refine g_n0 [.int (bI (true)), .ref 75] rfl rfl rfl ?_
  refine b_if_eq C 17 dX12_keepShares_7 (fun h7 => absurd h7 (by decide)) (fun h7 => ?_)
  refine g_iload_n C dX12_keepShares_10 rfl ?_
  refine g_callS C (k_isRegister _ hj) so_X12_106 dX12_keepShares_11 rfl rfl (rm_ok (M' := MX12_keepShares) hR (by decide)) (Nat.le_of_ble_eq_true rfl) (fun v9 S9 h9 => ?_)
  obtain ⟨rfl, h9⟩ := h9
  refine g_S S h9 ?_
  refine g_n0 [.int (bI (true)), .ref 75] rfl rfl rfl ?_
  refine b_if_ne C 21 dX12_keepShares_14 (fun h14 => ?_) (fun h14 => absurd h14 (by decide))
  refine g_iload_n C dX12_keepShares_21 rfl ?_
  refine n_iconst C 0 dX12_keepShares_22 ?_
  refine n_bipush C 20 dX12_keepShares_23 ?_
  refine g_callS C (k_in _ (in_lo (by omega)) (in_hi (m := 21) (by omega) (by decide))) so_X12_102 dX12_keepShares_25 rfl rfl (rm_ok (M' := MX12_keepShares) hR (by decide)) (Nat.le_of_ble_eq_true rfl) (fun v9 S9 h9 => ?_)
  obtain ⟨rfl, h9⟩ := h9
  refine g_S S h9 ?_
  refine g_n0 [.int (bI (true)), .ref 75] rfl rfl rfl ?_
  refine b_if_ne C 35 dX12_keepShares_28 (fun h28 => ?_) (fun h28 => absurd h28 (by decide))
  refine n_iconst C 0 dX12_keepShares_35 ?_
  refine g_putI C fo_X12_98 dX12_keepShares_36 rfl (by decide) rfl ?_
  refine g_aload_n C dX12_keepShares_39 rfl ?_
  refine g_getI C (a := (nI (0))) fo_X12_98 dX12_keepShares_40 rfl (by decide) (fun _ => rfl) rfl ?_
  refine n_if_eq C 47 dX12_keepShares_43 (fun h43 => ?_) (fun h43 => absurd h43 (by decide))
  refine g_aload_n C dX12_keepShares_47 rfl ?_
  refine g_getR C fo_X12_23 dX12_keepShares_48 rfl (by decide) (fun _ => rfl) (gs_75_6 hS) ?_
  refine g_iload_n C dX12_keepShares_51 rfl ?_
  refine g_iload C dX12_keepShares_52 rfl ?_
  suffices K62 : GG x 106 0 0 [.ref 75, .int (nI (p)), .int (nI (j)), .int (nI (m)), .int (bI (b)), unk] [.int (nI (if b then 1 else 2)), .int (nI (p)), .ref 80] (wI S 75 (va_up (mI S 75) 0 (nI (0)))) 62 from by
    refine b_if_eq C 61 dX12_keepShares_54 (fun h54 => ?_) (fun h54 => ?_)
    · refine n_iconst C 2 dX12_keepShares_61 ?_
      first | (rw [if_pos (by assumption)] at K62; exact K62) | (rw [if_neg (by simp_all)] at K62; exact K62)
    · refine n_iconst C 1 dX12_keepShares_57 ?_
      refine g_goto C 62 dX12_keepShares_58 (by decide) ?_
      first | (rw [if_pos (by assumption)] at K62; exact K62) | (rw [if_neg (by simp_all)] at K62; exact K62)
  refine g_iast C dX12_keepShares_62 rfl (by decide) (by omega) rfl ?_
  refine g_aload_n C dX12_keepShares_63 rfl ?_
  refine g_getR C fo_X12_26 dX12_keepShares_64 rfl (by decide) (fun _ => rfl) (gs_75_7 hS) ?_
  refine g_iload_n C dX12_keepShares_67 rfl ?_
  refine g_iload_n C dX12_keepShares_68 rfl ?_
  refine n_iconst C 1 dX12_keepShares_69 ?_
  refine n_iadd C dX12_keepShares_70 ?_
  refine g_iast C dX12_keepShares_71 rfl (by decide) (by omega) rfl ?_
  refine n_iconst C 0 dX12_keepShares_72 ?_
  refine g_istore C (by rw [hmL]; decide) dX12_keepShares_73 [.ref 75, .int (nI (p)), .int (nI (j)), .int (nI (m)), .int (bI (b)), .int (nI (0))] rfl ?_
  have f1 : FN (fun r => r = 80 ∨ r = 81) (th S 0) (wI (wI (wI S 75 (va_up (mI S 75) 0 (nI (0)))) 80 (va_up (mI (wI S 75 (va_up (mI S 75) 0 (nI (0)))) 80) (p) (nI (if b then 1 else 2)))) 81 (va_up (mI (wI (wI S 75 (va_up (mI S 75) 0 (nI (0)))) 80 (va_up (mI (wI S 75 (va_up (mI S 75) 0 (nI (0)))) 80) (p) (nI (if b then 1 else 2)))) 81) (p) (nI ((m) + (1))))) := (FN.wI (by decide)).tr (FN.wI (by decide))
  have hMt := hM.fs (th_fs (c := 0))
  have k1 := f1.mono (Q := rK) (fun r z => by have z : r = 80 ∨ r = 81 := z; show (80 ≤ r ∧ r ≤ 83) ∨ r = 102 ∨ r = 103; omega)
  have hM1 := hMt.anyR k1
  have hS1 := (hS.fn (th_fs (c := 0)).1).fn f1
  refine lp_ks hR hmL C hS1 hM1 hj hG hp hm (fun S2 f2 hF2 hD2 => ?_) (m + 1) 0 _ (Nat.zero_add _) FN.rf reg_0.symm reg_0.symm
  have k2 := k1.tr (f2.mono (fun r z => by have z : r = 82 ∨ r = 83 ∨ r = 102 ∨ r = 103 := z; show (80 ≤ r ∧ r ≤ 83) ∨ r = 102 ∨ r = 103; omega))
  refine g_vret C E dX12_keepShares_131 (by rw [hR]; decide) (by rw [hR]; decide) ⟨rfl, by rw [(k2.2 75 (by decide)).1]; exact th_0, hMt.setRw k2 ⟨fun q hq => ?_, ?_, ?_⟩, (th_fs (c := 0)).mC.tr (k2.mono (fun r z => by have z : (80 ≤ r ∧ r ≤ 83) ∨ r = 102 ∨ r = 103 := z; show 75 ≤ r ∧ r ≤ 103; omega))⟩
  · rw [(f2.2 80 (by decide)).1, (f2.2 81 (by decide)).1]
    show va_up (mI S 80) p (nI (if b then 1 else 2)) q = nI (va_up A.2.2.1 p (if b then 1 else 2, m + 1) q).1 ∧ va_up (mI S 81) p (nI (m + 1)) q = nI (va_up A.2.2.1 p (if b then 1 else 2, m + 1) q).2
    by_cases e : q = p
    · rw [e, up_same, up_same, up_same]; exact ⟨rfl, rfl⟩
    · rw [va_up_ne _ _ e, va_up_ne _ _ e, va_up_ne _ _ e]; exact hM.2.2.2.2.2.1 q hq
  · rw [hF2]; exact congrArg (reg (21 * p) (m + 1) _) hM.2.2.2.2.2.2.1
  · rw [hD2]; exact congrArg (reg (21 * p) (m + 1) _) hM.2.2.2.2.2.2.2
  

set_option maxRecDepth 100000 in
theorem m_keepShares_p (l : Launch) {S : pv_M} {p : Int32} (hS : GS S) (h : badI p 2) {q1 q2 q3 : Int32} : mt l MX12_keepShares 106 [.ref 75, .int (p), .int (q1), .int (q2), .int (q3)] S (fun v S' => v = none ∧ S' = th S 1) := by
  refine mt_of (by decide) (Nat.le_of_ble_eq_true rfl) ?_
  intro x hl hR hmL C E
  show GG x 106 0 0 [.ref 75, .int (p), .int (q1), .int (q2), .int (q3), unk] [] S 0
  refine g_aload_n C dX12_keepShares_0 rfl ?_
  refine g_iload_n C dX12_keepShares_1 rfl ?_
  refine n_iconst C 0 dX12_keepShares_2 ?_
  refine n_iconst C 1 dX12_keepShares_3 ?_
  refine g_callS C (k_inF _ (in_badP h (by decide) (by decide))) so_X12_102 dX12_keepShares_4 rfl rfl (rm_ok (M' := MX12_keepShares) hR (by decide)) (Nat.le_of_ble_eq_true rfl) (fun v9 S9 h9 => ?_)
  obtain ⟨rfl, h9⟩ := h9
  refine g_S S h9 ?_
  refine g_n0 [.int (bI (false)), .ref 75] rfl rfl rfl ?_
  refine b_if_eq C 17 dX12_keepShares_7 (fun h7 => ?_) (fun h7 => absurd h7 (by decide))
  refine n_iconst C 1 dX12_keepShares_17 ?_
  refine g_goto C 36 dX12_keepShares_18 (by decide) ?_
  refine g_putI C fo_X12_98 dX12_keepShares_36 rfl (by decide) rfl ?_
  refine g_aload_n C dX12_keepShares_39 rfl ?_
  refine g_getI C (a := (nI (1))) fo_X12_98 dX12_keepShares_40 rfl (by decide) (fun _ => rfl) rfl ?_
  refine n_if_eq C 47 dX12_keepShares_43 (fun h43 => absurd h43 (by decide)) (fun h43 => ?_)
  exact g_vret C E dX12_keepShares_46 (by rw [hR]; decide) (by rw [hR]; decide) ⟨rfl, rfl⟩

set_option maxRecDepth 100000 in
theorem m_keepShares_r (l : Launch) {S : pv_M} {p : Nat} (hp : p < 2) {q : Int32} (hS : GS S) (h : badI q 3) {q2 q3 : Int32} : mt l MX12_keepShares 106 [.ref 75, .int (nI (p)), .int (q), .int (q2), .int (q3)] S (fun v S' => v = none ∧ S' = th S 1) := by
  refine mt_of (by decide) (Nat.le_of_ble_eq_true rfl) ?_
  intro x hl hR hmL C E
  show GG x 106 0 0 [.ref 75, .int (nI (p)), .int (q), .int (q2), .int (q3), unk] [] S 0
  refine g_aload_n C dX12_keepShares_0 rfl ?_
  refine g_iload_n C dX12_keepShares_1 rfl ?_
  refine n_iconst C 0 dX12_keepShares_2 ?_
  refine n_iconst C 1 dX12_keepShares_3 ?_
  refine g_callS C (k_in _ (in_lo (by omega)) (in_hi (m := 2) hp (by decide))) so_X12_102 dX12_keepShares_4 rfl rfl (rm_ok (M' := MX12_keepShares) hR (by decide)) (Nat.le_of_ble_eq_true rfl) (fun v9 S9 h9 => ?_)
  obtain ⟨rfl, h9⟩ := h9
  refine g_S S h9 ?_
  refine g_n0 [.int (bI (true)), .ref 75] rfl rfl rfl ?_
  refine b_if_eq C 17 dX12_keepShares_7 (fun h7 => absurd h7 (by decide)) (fun h7 => ?_)
  refine g_iload_n C dX12_keepShares_10 rfl ?_
  refine g_callS C (k_isRegisterF _ h) so_X12_106 dX12_keepShares_11 rfl rfl (rm_ok (M' := MX12_keepShares) hR (by decide)) (Nat.le_of_ble_eq_true rfl) (fun v9 S9 h9 => ?_)
  obtain ⟨rfl, h9⟩ := h9
  refine g_S S h9 ?_
  refine g_n0 [.int (bI (false)), .ref 75] rfl rfl rfl ?_
  refine b_if_ne C 21 dX12_keepShares_14 (fun h14 => absurd h14 (by decide)) (fun h14 => ?_)
  refine n_iconst C 1 dX12_keepShares_17 ?_
  refine g_goto C 36 dX12_keepShares_18 (by decide) ?_
  refine g_putI C fo_X12_98 dX12_keepShares_36 rfl (by decide) rfl ?_
  refine g_aload_n C dX12_keepShares_39 rfl ?_
  refine g_getI C (a := (nI (1))) fo_X12_98 dX12_keepShares_40 rfl (by decide) (fun _ => rfl) rfl ?_
  refine n_if_eq C 47 dX12_keepShares_43 (fun h43 => absurd h43 (by decide)) (fun h43 => ?_)
  exact g_vret C E dX12_keepShares_46 (by rw [hR]; decide) (by rw [hR]; decide) ⟨rfl, rfl⟩

set_option maxRecDepth 100000 in
theorem m_keepShares_n (l : Launch) {S : pv_M} {p j : Nat} (hp : p < 2) (hj : j < 3) {q : Int32} (hS : GS S) (h : badI q 21) {q3 : Int32} : mt l MX12_keepShares 106 [.ref 75, .int (nI (p)), .int (nI (j)), .int (q), .int (q3)] S (fun v S' => v = none ∧ S' = th S 2) := by
  refine mt_of (by decide) (Nat.le_of_ble_eq_true rfl) ?_
  intro x hl hR hmL C E
  show GG x 106 0 0 [.ref 75, .int (nI (p)), .int (nI (j)), .int (q), .int (q3), unk] [] S 0
  refine g_aload_n C dX12_keepShares_0 rfl ?_
  refine g_iload_n C dX12_keepShares_1 rfl ?_
  refine n_iconst C 0 dX12_keepShares_2 ?_
  refine n_iconst C 1 dX12_keepShares_3 ?_
  refine g_callS C (k_in _ (in_lo (by omega)) (in_hi (m := 2) hp (by decide))) so_X12_102 dX12_keepShares_4 rfl rfl (rm_ok (M' := MX12_keepShares) hR (by decide)) (Nat.le_of_ble_eq_true rfl) (fun v9 S9 h9 => ?_)
  obtain ⟨rfl, h9⟩ := h9
  refine g_S S h9 ?_
  refine g_n0 [.int (bI (true)), .ref 75] rfl rfl rfl ?_
  refine b_if_eq C 17 dX12_keepShares_7 (fun h7 => absurd h7 (by decide)) (fun h7 => ?_)
  refine g_iload_n C dX12_keepShares_10 rfl ?_
  refine g_callS C (k_isRegister _ hj) so_X12_106 dX12_keepShares_11 rfl rfl (rm_ok (M' := MX12_keepShares) hR (by decide)) (Nat.le_of_ble_eq_true rfl) (fun v9 S9 h9 => ?_)
  obtain ⟨rfl, h9⟩ := h9
  refine g_S S h9 ?_
  refine g_n0 [.int (bI (true)), .ref 75] rfl rfl rfl ?_
  refine b_if_ne C 21 dX12_keepShares_14 (fun h14 => ?_) (fun h14 => absurd h14 (by decide))
  refine g_iload_n C dX12_keepShares_21 rfl ?_
  refine n_iconst C 0 dX12_keepShares_22 ?_
  refine n_bipush C 20 dX12_keepShares_23 ?_
  refine g_callS C (k_inF _ (in_badP h (by decide) (by decide))) so_X12_102 dX12_keepShares_25 rfl rfl (rm_ok (M' := MX12_keepShares) hR (by decide)) (Nat.le_of_ble_eq_true rfl) (fun v9 S9 h9 => ?_)
  obtain ⟨rfl, h9⟩ := h9
  refine g_S S h9 ?_
  refine g_n0 [.int (bI (false)), .ref 75] rfl rfl rfl ?_
  refine b_if_ne C 35 dX12_keepShares_28 (fun h28 => absurd h28 (by decide)) (fun h28 => ?_)
  refine n_iconst C 2 dX12_keepShares_31 ?_
  refine g_goto C 36 dX12_keepShares_32 (by decide) ?_
  refine g_putI C fo_X12_98 dX12_keepShares_36 rfl (by decide) rfl ?_
  refine g_aload_n C dX12_keepShares_39 rfl ?_
  refine g_getI C (a := (nI (2))) fo_X12_98 dX12_keepShares_40 rfl (by decide) (fun _ => rfl) rfl ?_
  refine n_if_eq C 47 dX12_keepShares_43 (fun h43 => absurd h43 (by decide)) (fun h43 => ?_)
  exact g_vret C E dX12_keepShares_46 (by rw [hR]; decide) (by rw [hR]; decide) ⟨rfl, rfl⟩

set_option maxRecDepth 100000 in
theorem m_remainder_1 (l : Launch) {S : pv_M} {A : Ab} (hS : GS S) (hM : MSt S A) (hg : gdW A.2.2) {p : Nat} (hp : p < 2) (hk : (A.2.2.1 p).1 = 1) {u e D G : Nat} (hu : u < (A.2.2.1 p).2) (hw : e < (A.2.2.1 p).2) (pu : PF (A.2.2.2.1 (21 * p + u)) D) (pe : PF (A.2.2.2.1 (21 * p + e)) G) (h0 : 0 < G) : mt l MX12_remainder 106 [.ref 75, .int (nI (p)), .int (nI (u)), .int (nI (e))] S (fun v S' => v = some (.double (FP.f2d (FP.frem (A.2.2.2.1 (21 * p + u)) (A.2.2.2.1 (21 * p + e))))) ∧ S' = th S 0) := by
  refine mt_of (by decide) (Nat.le_of_ble_eq_true rfl) ?_
  intro x hl hR hmL C E
  show GG x 106 0 0 [.ref 75, .int (nI (p)), .int (nI (u)), .int (nI (e)), unk, unk] [] S 0
  have hq := hg p hp
  obtain ⟨z1, z2⟩ := hq.2.1 (by rw [hk]; decide)
  refine g_aload_n C dX12_remainder_0 rfl ?_
  refine g_iload_n C dX12_remainder_1 rfl ?_
  refine n_iconst C 0 dX12_remainder_2 ?_
  refine n_iconst C 1 dX12_remainder_3 ?_
  refine g_callS C (k_in _ (in_lo (by omega)) (in_hi (m := 2) hp (by decide))) so_X12_102 dX12_remainder_4 rfl rfl (rm_ok (M' := MX12_remainder) hR (by decide)) (Nat.le_of_ble_eq_true rfl) (fun v9 S9 h9 => ?_)
  obtain ⟨rfl, h9⟩ := h9
  refine g_S S h9 ?_
  refine g_n0 [.int (bI (true)), .ref 75] rfl rfl rfl ?_
  refine b_if_ne C 14 dX12_remainder_7 (fun h7 => ?_) (fun h7 => absurd h7 (by decide))
  refine g_aload_n C dX12_remainder_14 rfl ?_
  refine g_getR C fo_X12_23 dX12_remainder_15 rfl (by decide) (fun _ => rfl) (gs_75_6 hS) ?_
  refine g_iload_n C dX12_remainder_18 rfl ?_
  refine n_iconst C 0 dX12_remainder_19 ?_
  refine n_iconst C 1 dX12_remainder_20 ?_
  refine g_callS C (k_in _ (in_lo (by omega)) (in_hi (m := 2) hp (by decide))) so_X12_102 dX12_remainder_21 rfl rfl (rm_ok (M' := MX12_remainder) hR (by decide)) (Nat.le_of_ble_eq_true rfl) (fun v9 S9 h9 => ?_)
  obtain ⟨rfl, h9⟩ := h9
  refine g_S S h9 ?_
  refine g_n0 [.int (bI (true)), .ref 80, .ref 75] rfl rfl rfl ?_
  refine b_if_eq C 31 dX12_remainder_24 (fun h24 => absurd h24 (by decide)) (fun h24 => ?_)
  refine g_iload_n C dX12_remainder_27 rfl ?_
  refine g_goto C 32 dX12_remainder_28 (by decide) ?_
  refine n_iald C (v := (nI (1))) dX12_remainder_32 rfl (by decide) ((hM.2.2.2.2.2.1 p hp).1.trans (by rw [hk])) ?_ (by omega)
  refine n_if_ne C 40 dX12_remainder_33 (fun h33 => ?_) (fun h33 => absurd h33 (by omega))
  refine n_iconst C 0 dX12_remainder_40 ?_
  refine g_putI C fo_X12_98 dX12_remainder_41 rfl (by decide) rfl ?_
  refine g_aload_n C dX12_remainder_44 rfl ?_
  refine g_getI C (a := (nI (0))) fo_X12_98 dX12_remainder_45 rfl (by decide) (fun _ => rfl) rfl ?_
  refine n_if_eq C 53 dX12_remainder_48 (fun h48 => ?_) (fun h48 => absurd h48 (by decide))
  refine g_iload_n C dX12_remainder_53 rfl ?_
  refine n_iconst C 0 dX12_remainder_54 ?_
  refine g_aload_n C dX12_remainder_55 rfl ?_
  refine g_getR C fo_X12_26 dX12_remainder_56 rfl (by decide) (fun _ => rfl) (gs_75_7 hS) ?_
  refine g_iload_n C dX12_remainder_59 rfl ?_
  refine n_iald C (v := (nI ((A.2.2.1 p).2))) dX12_remainder_60 rfl (by decide) (hM.2.2.2.2.2.1 p hp).2 ?_ (by omega)
  refine n_iconst C 1 dX12_remainder_61 ?_
  refine g_isub C dX12_remainder_62 ?_
  refine g_callS C (k_in _ (in_lo (by omega)) (in_hi' hu (by omega))) so_X12_102 dX12_remainder_63 rfl rfl (rm_ok (M' := MX12_remainder) hR (by decide)) (Nat.le_of_ble_eq_true rfl) (fun v9 S9 h9 => ?_)
  obtain ⟨rfl, h9⟩ := h9
  refine g_S (wI S 75 (va_up (mI S 75) 0 (nI (0)))) h9 ?_
  refine g_n0 [.int (bI (true))] rfl rfl rfl ?_
  refine b_if_eq C 85 dX12_remainder_66 (fun h66 => absurd h66 (by decide)) (fun h66 => ?_)
  refine g_iload_n C dX12_remainder_69 rfl ?_
  refine n_iconst C 0 dX12_remainder_70 ?_
  refine g_aload_n C dX12_remainder_71 rfl ?_
  refine g_getR C fo_X12_26 dX12_remainder_72 rfl (by decide) (fun _ => rfl) (gs_75_7 hS) ?_
  refine g_iload_n C dX12_remainder_75 rfl ?_
  refine n_iald C (v := (nI ((A.2.2.1 p).2))) dX12_remainder_76 rfl (by decide) (hM.2.2.2.2.2.1 p hp).2 ?_ (by omega)
  refine n_iconst C 1 dX12_remainder_77 ?_
  refine g_isub C dX12_remainder_78 ?_
  refine g_callS C (k_in _ (in_lo (by omega)) (in_hi' hw (by omega))) so_X12_102 dX12_remainder_79 rfl rfl (rm_ok (M' := MX12_remainder) hR (by decide)) (Nat.le_of_ble_eq_true rfl) (fun v9 S9 h9 => ?_)
  obtain ⟨rfl, h9⟩ := h9
  refine g_S (wI S 75 (va_up (mI S 75) 0 (nI (0)))) h9 ?_
  refine g_n0 [.int (bI (true))] rfl rfl rfl ?_
  refine b_if_ne C 92 dX12_remainder_82 (fun h82 => ?_) (fun h82 => absurd h82 (by decide))
  refine n_bipush C 21 dX12_remainder_92 ?_
  refine g_iload_n C dX12_remainder_94 rfl ?_
  refine n_imul C dX12_remainder_95 ?_
  refine g_iload_n C dX12_remainder_96 rfl ?_
  refine n_iadd C dX12_remainder_97 ?_
  refine g_istore C (by rw [hmL]; decide) dX12_remainder_98 [.ref 75, .int (nI (p)), .int (nI (u)), .int (nI (e)), .int (nI (((21) * (p)) + (u))), unk] rfl ?_
  refine n_bipush C 21 dX12_remainder_100 ?_
  refine g_iload_n C dX12_remainder_102 rfl ?_
  refine n_imul C dX12_remainder_103 ?_
  refine g_iload_n C dX12_remainder_104 rfl ?_
  refine n_iadd C dX12_remainder_105 ?_
  refine g_istore C (by rw [hmL]; decide) dX12_remainder_106 [.ref 75, .int (nI (p)), .int (nI (u)), .int (nI (e)), .int (nI (((21) * (p)) + (u))), .int (nI (((21) * (p)) + (e)))] rfl ?_
  refine g_aload_n C dX12_remainder_108 rfl ?_
  refine g_getR C fo_X12_23 dX12_remainder_109 rfl (by decide) (fun _ => rfl) (gs_75_6 hS) ?_
  refine g_iload_n C dX12_remainder_112 rfl ?_
  refine n_iald C (v := (nI (1))) dX12_remainder_113 rfl (by decide) ((hM.2.2.2.2.2.1 p hp).1.trans (by rw [hk])) ?_ (by omega)
  refine n_iconst C 1 dX12_remainder_114 ?_
  refine n_ic_ne C 133 dX12_remainder_115 (fun h115 => absurd h115 (by omega)) (fun h115 => ?_)
  refine g_aload_n C dX12_remainder_118 rfl ?_
  refine g_getR C fo_X12_29 dX12_remainder_119 rfl (by decide) (fun _ => rfl) (gs_75_8 hS) ?_
  refine g_iload C dX12_remainder_122 rfl ?_
  refine n_fald C (v := A.2.2.2.1 (21 * p + e)) dX12_remainder_124 rfl (by decide) (congrFun hM.2.2.2.2.2.2.1 _) ?_ (by omega)
  refine g_fconst0 C dX12_remainder_125 ?_
  refine g_fcmp C dX12_remainder_126 ?_
  refine fv_if_ne C 152 dX12_remainder_127 pe PF.z0 (fun h127 => ?_) (fun h127 => absurd h127 (by omega))
  refine g_aload_n C dX12_remainder_152 rfl ?_
  refine g_getR C fo_X12_23 dX12_remainder_153 rfl (by decide) (fun _ => rfl) (gs_75_6 hS) ?_
  refine g_iload_n C dX12_remainder_156 rfl ?_
  refine n_iald C (v := (nI (1))) dX12_remainder_157 rfl (by decide) ((hM.2.2.2.2.2.1 p hp).1.trans (by rw [hk])) ?_ (by omega)
  refine n_iconst C 1 dX12_remainder_158 ?_
  refine n_ic_ne C 181 dX12_remainder_159 (fun h159 => absurd h159 (by omega)) (fun h159 => ?_)
  refine g_aload_n C dX12_remainder_162 rfl ?_
  refine g_getR C fo_X12_29 dX12_remainder_163 rfl (by decide) (fun _ => rfl) (gs_75_8 hS) ?_
  refine g_iload C dX12_remainder_166 rfl ?_
  refine n_fald C (v := A.2.2.2.1 (21 * p + u)) dX12_remainder_168 rfl (by decide) (congrFun hM.2.2.2.2.2.2.1 _) ?_ (by omega)
  refine g_aload_n C dX12_remainder_169 rfl ?_
  refine g_getR C fo_X12_29 dX12_remainder_170 rfl (by decide) (fun _ => rfl) (gs_75_8 hS) ?_
  refine g_iload C dX12_remainder_173 rfl ?_
  refine n_fald C (v := A.2.2.2.1 (21 * p + e)) dX12_remainder_175 rfl (by decide) (congrFun hM.2.2.2.2.2.2.1 _) ?_ (by omega)
  refine g_frem C dX12_remainder_176 (pu.rem pe h0).ok ?_
  refine g_f2d C dX12_remainder_177 (f2d_ok (pu.rem pe h0)) ?_
  refine g_goto C 196 dX12_remainder_178 (by decide) ?_
  exact g_dret C E dX12_remainder_196 (by rw [hR]; decide) (by rw [hR]; decide) ⟨rfl, rfl⟩

set_option maxRecDepth 100000 in
theorem m_remainder_z1 (l : Launch) {S : pv_M} {A : Ab} (hS : GS S) (hM : MSt S A) (hg : gdW A.2.2) {p : Nat} (hp : p < 2) (hk : (A.2.2.1 p).1 = 1) {u e : Nat} (hu : u < (A.2.2.1 p).2) (hw : e < (A.2.2.1 p).2) (pe : PF (A.2.2.2.1 (21 * p + e)) 0) : mt l MX12_remainder 106 [.ref 75, .int (nI (p)), .int (nI (u)), .int (nI (e))] S (fun v S' => v = some (.double FP.dconst0) ∧ S' = th (th S 0) 4) := by
  refine mt_of (by decide) (Nat.le_of_ble_eq_true rfl) ?_
  intro x hl hR hmL C E
  show GG x 106 0 0 [.ref 75, .int (nI (p)), .int (nI (u)), .int (nI (e)), unk, unk] [] S 0
  have hq := hg p hp
  obtain ⟨z1, z2⟩ := hq.2.1 (by rw [hk]; decide)
  refine g_aload_n C dX12_remainder_0 rfl ?_
  refine g_iload_n C dX12_remainder_1 rfl ?_
  refine n_iconst C 0 dX12_remainder_2 ?_
  refine n_iconst C 1 dX12_remainder_3 ?_
  refine g_callS C (k_in _ (in_lo (by omega)) (in_hi (m := 2) hp (by decide))) so_X12_102 dX12_remainder_4 rfl rfl (rm_ok (M' := MX12_remainder) hR (by decide)) (Nat.le_of_ble_eq_true rfl) (fun v9 S9 h9 => ?_)
  obtain ⟨rfl, h9⟩ := h9
  refine g_S S h9 ?_
  refine g_n0 [.int (bI (true)), .ref 75] rfl rfl rfl ?_
  refine b_if_ne C 14 dX12_remainder_7 (fun h7 => ?_) (fun h7 => absurd h7 (by decide))
  refine g_aload_n C dX12_remainder_14 rfl ?_
  refine g_getR C fo_X12_23 dX12_remainder_15 rfl (by decide) (fun _ => rfl) (gs_75_6 hS) ?_
  refine g_iload_n C dX12_remainder_18 rfl ?_
  refine n_iconst C 0 dX12_remainder_19 ?_
  refine n_iconst C 1 dX12_remainder_20 ?_
  refine g_callS C (k_in _ (in_lo (by omega)) (in_hi (m := 2) hp (by decide))) so_X12_102 dX12_remainder_21 rfl rfl (rm_ok (M' := MX12_remainder) hR (by decide)) (Nat.le_of_ble_eq_true rfl) (fun v9 S9 h9 => ?_)
  obtain ⟨rfl, h9⟩ := h9
  refine g_S S h9 ?_
  refine g_n0 [.int (bI (true)), .ref 80, .ref 75] rfl rfl rfl ?_
  refine b_if_eq C 31 dX12_remainder_24 (fun h24 => absurd h24 (by decide)) (fun h24 => ?_)
  refine g_iload_n C dX12_remainder_27 rfl ?_
  refine g_goto C 32 dX12_remainder_28 (by decide) ?_
  refine n_iald C (v := (nI (1))) dX12_remainder_32 rfl (by decide) ((hM.2.2.2.2.2.1 p hp).1.trans (by rw [hk])) ?_ (by omega)
  refine n_if_ne C 40 dX12_remainder_33 (fun h33 => ?_) (fun h33 => absurd h33 (by omega))
  refine n_iconst C 0 dX12_remainder_40 ?_
  refine g_putI C fo_X12_98 dX12_remainder_41 rfl (by decide) rfl ?_
  refine g_aload_n C dX12_remainder_44 rfl ?_
  refine g_getI C (a := (nI (0))) fo_X12_98 dX12_remainder_45 rfl (by decide) (fun _ => rfl) rfl ?_
  refine n_if_eq C 53 dX12_remainder_48 (fun h48 => ?_) (fun h48 => absurd h48 (by decide))
  refine g_iload_n C dX12_remainder_53 rfl ?_
  refine n_iconst C 0 dX12_remainder_54 ?_
  refine g_aload_n C dX12_remainder_55 rfl ?_
  refine g_getR C fo_X12_26 dX12_remainder_56 rfl (by decide) (fun _ => rfl) (gs_75_7 hS) ?_
  refine g_iload_n C dX12_remainder_59 rfl ?_
  refine n_iald C (v := (nI ((A.2.2.1 p).2))) dX12_remainder_60 rfl (by decide) (hM.2.2.2.2.2.1 p hp).2 ?_ (by omega)
  refine n_iconst C 1 dX12_remainder_61 ?_
  refine g_isub C dX12_remainder_62 ?_
  refine g_callS C (k_in _ (in_lo (by omega)) (in_hi' hu (by omega))) so_X12_102 dX12_remainder_63 rfl rfl (rm_ok (M' := MX12_remainder) hR (by decide)) (Nat.le_of_ble_eq_true rfl) (fun v9 S9 h9 => ?_)
  obtain ⟨rfl, h9⟩ := h9
  refine g_S (wI S 75 (va_up (mI S 75) 0 (nI (0)))) h9 ?_
  refine g_n0 [.int (bI (true))] rfl rfl rfl ?_
  refine b_if_eq C 85 dX12_remainder_66 (fun h66 => absurd h66 (by decide)) (fun h66 => ?_)
  refine g_iload_n C dX12_remainder_69 rfl ?_
  refine n_iconst C 0 dX12_remainder_70 ?_
  refine g_aload_n C dX12_remainder_71 rfl ?_
  refine g_getR C fo_X12_26 dX12_remainder_72 rfl (by decide) (fun _ => rfl) (gs_75_7 hS) ?_
  refine g_iload_n C dX12_remainder_75 rfl ?_
  refine n_iald C (v := (nI ((A.2.2.1 p).2))) dX12_remainder_76 rfl (by decide) (hM.2.2.2.2.2.1 p hp).2 ?_ (by omega)
  refine n_iconst C 1 dX12_remainder_77 ?_
  refine g_isub C dX12_remainder_78 ?_
  refine g_callS C (k_in _ (in_lo (by omega)) (in_hi' hw (by omega))) so_X12_102 dX12_remainder_79 rfl rfl (rm_ok (M' := MX12_remainder) hR (by decide)) (Nat.le_of_ble_eq_true rfl) (fun v9 S9 h9 => ?_)
  obtain ⟨rfl, h9⟩ := h9
  refine g_S (wI S 75 (va_up (mI S 75) 0 (nI (0)))) h9 ?_
  refine g_n0 [.int (bI (true))] rfl rfl rfl ?_
  refine b_if_ne C 92 dX12_remainder_82 (fun h82 => ?_) (fun h82 => absurd h82 (by decide))
  refine n_bipush C 21 dX12_remainder_92 ?_
  refine g_iload_n C dX12_remainder_94 rfl ?_
  refine n_imul C dX12_remainder_95 ?_
  refine g_iload_n C dX12_remainder_96 rfl ?_
  refine n_iadd C dX12_remainder_97 ?_
  refine g_istore C (by rw [hmL]; decide) dX12_remainder_98 [.ref 75, .int (nI (p)), .int (nI (u)), .int (nI (e)), .int (nI (((21) * (p)) + (u))), unk] rfl ?_
  refine n_bipush C 21 dX12_remainder_100 ?_
  refine g_iload_n C dX12_remainder_102 rfl ?_
  refine n_imul C dX12_remainder_103 ?_
  refine g_iload_n C dX12_remainder_104 rfl ?_
  refine n_iadd C dX12_remainder_105 ?_
  refine g_istore C (by rw [hmL]; decide) dX12_remainder_106 [.ref 75, .int (nI (p)), .int (nI (u)), .int (nI (e)), .int (nI (((21) * (p)) + (u))), .int (nI (((21) * (p)) + (e)))] rfl ?_
  refine g_aload_n C dX12_remainder_108 rfl ?_
  refine g_getR C fo_X12_23 dX12_remainder_109 rfl (by decide) (fun _ => rfl) (gs_75_6 hS) ?_
  refine g_iload_n C dX12_remainder_112 rfl ?_
  refine n_iald C (v := (nI (1))) dX12_remainder_113 rfl (by decide) ((hM.2.2.2.2.2.1 p hp).1.trans (by rw [hk])) ?_ (by omega)
  refine n_iconst C 1 dX12_remainder_114 ?_
  refine n_ic_ne C 133 dX12_remainder_115 (fun h115 => absurd h115 (by omega)) (fun h115 => ?_)
  refine g_aload_n C dX12_remainder_118 rfl ?_
  refine g_getR C fo_X12_29 dX12_remainder_119 rfl (by decide) (fun _ => rfl) (gs_75_8 hS) ?_
  refine g_iload C dX12_remainder_122 rfl ?_
  refine n_fald C (v := A.2.2.2.1 (21 * p + e)) dX12_remainder_124 rfl (by decide) (congrFun hM.2.2.2.2.2.2.1 _) ?_ (by omega)
  refine g_fconst0 C dX12_remainder_125 ?_
  refine g_fcmp C dX12_remainder_126 ?_
  refine fv_if_ne C 152 dX12_remainder_127 pe PF.z0 (fun h127 => absurd rfl h127) (fun h127 => ?_)
  refine g_goto C 145 dX12_remainder_130 (by decide) ?_
  refine g_aload_n C dX12_remainder_145 rfl ?_
  refine n_iconst C 4 dX12_remainder_146 ?_
  refine g_putI C fo_X12_98 dX12_remainder_147 rfl (by decide) rfl ?_
  refine g_dconst0 C dX12_remainder_150 ?_
  exact g_dret C E dX12_remainder_151 (by rw [hR]; decide) (by rw [hR]; decide) ⟨rfl, rfl⟩

set_option maxRecDepth 100000 in
theorem m_remainder_u1 (l : Launch) {S : pv_M} {A : Ab} (hS : GS S) (hM : MSt S A) (hg : gdW A.2.2) {p : Nat} (hp : p < 2) (hk : (A.2.2.1 p).1 = 1) {u e : Int32} (h : badI u (A.2.2.1 p).2) : mt l MX12_remainder 106 [.ref 75, .int (nI (p)), .int (u), .int (e)] S (fun v S' => v = some (.double FP.dconst0) ∧ S' = th (th S 0) 3) := by
  refine mt_of (by decide) (Nat.le_of_ble_eq_true rfl) ?_
  intro x hl hR hmL C E
  show GG x 106 0 0 [.ref 75, .int (nI (p)), .int (u), .int (e), unk, unk] [] S 0
  have hq := hg p hp
  obtain ⟨z1, z2⟩ := hq.2.1 (by rw [hk]; decide)
  refine g_aload_n C dX12_remainder_0 rfl ?_
  refine g_iload_n C dX12_remainder_1 rfl ?_
  refine n_iconst C 0 dX12_remainder_2 ?_
  refine n_iconst C 1 dX12_remainder_3 ?_
  refine g_callS C (k_in _ (in_lo (by omega)) (in_hi (m := 2) hp (by decide))) so_X12_102 dX12_remainder_4 rfl rfl (rm_ok (M' := MX12_remainder) hR (by decide)) (Nat.le_of_ble_eq_true rfl) (fun v9 S9 h9 => ?_)
  obtain ⟨rfl, h9⟩ := h9
  refine g_S S h9 ?_
  refine g_n0 [.int (bI (true)), .ref 75] rfl rfl rfl ?_
  refine b_if_ne C 14 dX12_remainder_7 (fun h7 => ?_) (fun h7 => absurd h7 (by decide))
  refine g_aload_n C dX12_remainder_14 rfl ?_
  refine g_getR C fo_X12_23 dX12_remainder_15 rfl (by decide) (fun _ => rfl) (gs_75_6 hS) ?_
  refine g_iload_n C dX12_remainder_18 rfl ?_
  refine n_iconst C 0 dX12_remainder_19 ?_
  refine n_iconst C 1 dX12_remainder_20 ?_
  refine g_callS C (k_in _ (in_lo (by omega)) (in_hi (m := 2) hp (by decide))) so_X12_102 dX12_remainder_21 rfl rfl (rm_ok (M' := MX12_remainder) hR (by decide)) (Nat.le_of_ble_eq_true rfl) (fun v9 S9 h9 => ?_)
  obtain ⟨rfl, h9⟩ := h9
  refine g_S S h9 ?_
  refine g_n0 [.int (bI (true)), .ref 80, .ref 75] rfl rfl rfl ?_
  refine b_if_eq C 31 dX12_remainder_24 (fun h24 => absurd h24 (by decide)) (fun h24 => ?_)
  refine g_iload_n C dX12_remainder_27 rfl ?_
  refine g_goto C 32 dX12_remainder_28 (by decide) ?_
  refine n_iald C (v := (nI (1))) dX12_remainder_32 rfl (by decide) ((hM.2.2.2.2.2.1 p hp).1.trans (by rw [hk])) ?_ (by omega)
  refine n_if_ne C 40 dX12_remainder_33 (fun h33 => ?_) (fun h33 => absurd h33 (by omega))
  refine n_iconst C 0 dX12_remainder_40 ?_
  refine g_putI C fo_X12_98 dX12_remainder_41 rfl (by decide) rfl ?_
  refine g_aload_n C dX12_remainder_44 rfl ?_
  refine g_getI C (a := (nI (0))) fo_X12_98 dX12_remainder_45 rfl (by decide) (fun _ => rfl) rfl ?_
  refine n_if_eq C 53 dX12_remainder_48 (fun h48 => ?_) (fun h48 => absurd h48 (by decide))
  refine g_iload_n C dX12_remainder_53 rfl ?_
  refine n_iconst C 0 dX12_remainder_54 ?_
  refine g_aload_n C dX12_remainder_55 rfl ?_
  refine g_getR C fo_X12_26 dX12_remainder_56 rfl (by decide) (fun _ => rfl) (gs_75_7 hS) ?_
  refine g_iload_n C dX12_remainder_59 rfl ?_
  refine n_iald C (v := (nI ((A.2.2.1 p).2))) dX12_remainder_60 rfl (by decide) (hM.2.2.2.2.2.1 p hp).2 ?_ (by omega)
  refine n_iconst C 1 dX12_remainder_61 ?_
  refine g_isub C dX12_remainder_62 ?_
  refine g_callS C (k_inF _ (in_bad h (by omega))) so_X12_102 dX12_remainder_63 rfl rfl (rm_ok (M' := MX12_remainder) hR (by decide)) (Nat.le_of_ble_eq_true rfl) (fun v9 S9 h9 => ?_)
  obtain ⟨rfl, h9⟩ := h9
  refine g_S (wI S 75 (va_up (mI S 75) 0 (nI (0)))) h9 ?_
  refine g_n0 [.int (bI (false))] rfl rfl rfl ?_
  refine b_if_eq C 85 dX12_remainder_66 (fun h66 => ?_) (fun h66 => absurd h66 (by decide))
  refine g_aload_n C dX12_remainder_85 rfl ?_
  refine n_iconst C 3 dX12_remainder_86 ?_
  refine g_putI C fo_X12_98 dX12_remainder_87 rfl (by decide) rfl ?_
  refine g_dconst0 C dX12_remainder_90 ?_
  exact g_dret C E dX12_remainder_91 (by rw [hR]; decide) (by rw [hR]; decide) ⟨rfl, rfl⟩

set_option maxRecDepth 100000 in
theorem m_remainder_w1 (l : Launch) {S : pv_M} {A : Ab} (hS : GS S) (hM : MSt S A) (hg : gdW A.2.2) {p : Nat} (hp : p < 2) (hk : (A.2.2.1 p).1 = 1) {u : Nat} {e : Int32} (hu : u < (A.2.2.1 p).2) (h : badI e (A.2.2.1 p).2) : mt l MX12_remainder 106 [.ref 75, .int (nI (p)), .int (nI (u)), .int (e)] S (fun v S' => v = some (.double FP.dconst0) ∧ S' = th (th S 0) 3) := by
  refine mt_of (by decide) (Nat.le_of_ble_eq_true rfl) ?_
  intro x hl hR hmL C E
  show GG x 106 0 0 [.ref 75, .int (nI (p)), .int (nI (u)), .int (e), unk, unk] [] S 0
  have hq := hg p hp
  obtain ⟨z1, z2⟩ := hq.2.1 (by rw [hk]; decide)
  refine g_aload_n C dX12_remainder_0 rfl ?_
  refine g_iload_n C dX12_remainder_1 rfl ?_
  refine n_iconst C 0 dX12_remainder_2 ?_
  refine n_iconst C 1 dX12_remainder_3 ?_
  refine g_callS C (k_in _ (in_lo (by omega)) (in_hi (m := 2) hp (by decide))) so_X12_102 dX12_remainder_4 rfl rfl (rm_ok (M' := MX12_remainder) hR (by decide)) (Nat.le_of_ble_eq_true rfl) (fun v9 S9 h9 => ?_)
  obtain ⟨rfl, h9⟩ := h9
  refine g_S S h9 ?_
  refine g_n0 [.int (bI (true)), .ref 75] rfl rfl rfl ?_
  refine b_if_ne C 14 dX12_remainder_7 (fun h7 => ?_) (fun h7 => absurd h7 (by decide))
  refine g_aload_n C dX12_remainder_14 rfl ?_
  refine g_getR C fo_X12_23 dX12_remainder_15 rfl (by decide) (fun _ => rfl) (gs_75_6 hS) ?_
  refine g_iload_n C dX12_remainder_18 rfl ?_
  refine n_iconst C 0 dX12_remainder_19 ?_
  refine n_iconst C 1 dX12_remainder_20 ?_
  refine g_callS C (k_in _ (in_lo (by omega)) (in_hi (m := 2) hp (by decide))) so_X12_102 dX12_remainder_21 rfl rfl (rm_ok (M' := MX12_remainder) hR (by decide)) (Nat.le_of_ble_eq_true rfl) (fun v9 S9 h9 => ?_)
  obtain ⟨rfl, h9⟩ := h9
  refine g_S S h9 ?_
  refine g_n0 [.int (bI (true)), .ref 80, .ref 75] rfl rfl rfl ?_
  refine b_if_eq C 31 dX12_remainder_24 (fun h24 => absurd h24 (by decide)) (fun h24 => ?_)
  refine g_iload_n C dX12_remainder_27 rfl ?_
  refine g_goto C 32 dX12_remainder_28 (by decide) ?_
  refine n_iald C (v := (nI (1))) dX12_remainder_32 rfl (by decide) ((hM.2.2.2.2.2.1 p hp).1.trans (by rw [hk])) ?_ (by omega)
  refine n_if_ne C 40 dX12_remainder_33 (fun h33 => ?_) (fun h33 => absurd h33 (by omega))
  refine n_iconst C 0 dX12_remainder_40 ?_
  refine g_putI C fo_X12_98 dX12_remainder_41 rfl (by decide) rfl ?_
  refine g_aload_n C dX12_remainder_44 rfl ?_
  refine g_getI C (a := (nI (0))) fo_X12_98 dX12_remainder_45 rfl (by decide) (fun _ => rfl) rfl ?_
  refine n_if_eq C 53 dX12_remainder_48 (fun h48 => ?_) (fun h48 => absurd h48 (by decide))
  refine g_iload_n C dX12_remainder_53 rfl ?_
  refine n_iconst C 0 dX12_remainder_54 ?_
  refine g_aload_n C dX12_remainder_55 rfl ?_
  refine g_getR C fo_X12_26 dX12_remainder_56 rfl (by decide) (fun _ => rfl) (gs_75_7 hS) ?_
  refine g_iload_n C dX12_remainder_59 rfl ?_
  refine n_iald C (v := (nI ((A.2.2.1 p).2))) dX12_remainder_60 rfl (by decide) (hM.2.2.2.2.2.1 p hp).2 ?_ (by omega)
  refine n_iconst C 1 dX12_remainder_61 ?_
  refine g_isub C dX12_remainder_62 ?_
  refine g_callS C (k_in _ (in_lo (by omega)) (in_hi' hu (by omega))) so_X12_102 dX12_remainder_63 rfl rfl (rm_ok (M' := MX12_remainder) hR (by decide)) (Nat.le_of_ble_eq_true rfl) (fun v9 S9 h9 => ?_)
  obtain ⟨rfl, h9⟩ := h9
  refine g_S (wI S 75 (va_up (mI S 75) 0 (nI (0)))) h9 ?_
  refine g_n0 [.int (bI (true))] rfl rfl rfl ?_
  refine b_if_eq C 85 dX12_remainder_66 (fun h66 => absurd h66 (by decide)) (fun h66 => ?_)
  refine g_iload_n C dX12_remainder_69 rfl ?_
  refine n_iconst C 0 dX12_remainder_70 ?_
  refine g_aload_n C dX12_remainder_71 rfl ?_
  refine g_getR C fo_X12_26 dX12_remainder_72 rfl (by decide) (fun _ => rfl) (gs_75_7 hS) ?_
  refine g_iload_n C dX12_remainder_75 rfl ?_
  refine n_iald C (v := (nI ((A.2.2.1 p).2))) dX12_remainder_76 rfl (by decide) (hM.2.2.2.2.2.1 p hp).2 ?_ (by omega)
  refine n_iconst C 1 dX12_remainder_77 ?_
  refine g_isub C dX12_remainder_78 ?_
  refine g_callS C (k_inF _ (in_bad h (by omega))) so_X12_102 dX12_remainder_79 rfl rfl (rm_ok (M' := MX12_remainder) hR (by decide)) (Nat.le_of_ble_eq_true rfl) (fun v9 S9 h9 => ?_)
  obtain ⟨rfl, h9⟩ := h9
  refine g_S (wI S 75 (va_up (mI S 75) 0 (nI (0)))) h9 ?_
  refine g_n0 [.int (bI (false))] rfl rfl rfl ?_
  refine b_if_ne C 92 dX12_remainder_82 (fun h82 => absurd h82 (by decide)) (fun h82 => ?_)
  refine g_aload_n C dX12_remainder_85 rfl ?_
  refine n_iconst C 3 dX12_remainder_86 ?_
  refine g_putI C fo_X12_98 dX12_remainder_87 rfl (by decide) rfl ?_
  refine g_dconst0 C dX12_remainder_90 ?_
  exact g_dret C E dX12_remainder_91 (by rw [hR]; decide) (by rw [hR]; decide) ⟨rfl, rfl⟩

set_option maxRecDepth 100000 in
theorem m_remainder_2 (l : Launch) {S : pv_M} {A : Ab} (hS : GS S) (hM : MSt S A) (hg : gdW A.2.2) {p : Nat} (hp : p < 2) (hk : (A.2.2.1 p).1 = 2) {u e D G : Nat} (hu : u < (A.2.2.1 p).2) (hw : e < (A.2.2.1 p).2) (pu : PV (A.2.2.2.2 (21 * p + u)) D) (pe : PV (A.2.2.2.2 (21 * p + e)) G) (h0 : 0 < G) : mt l MX12_remainder 106 [.ref 75, .int (nI (p)), .int (nI (u)), .int (nI (e))] S (fun v S' => v = some (.double (FP.drem (A.2.2.2.2 (21 * p + u)) (A.2.2.2.2 (21 * p + e)))) ∧ S' = th S 0) := by
  refine mt_of (by decide) (Nat.le_of_ble_eq_true rfl) ?_
  intro x hl hR hmL C E
  show GG x 106 0 0 [.ref 75, .int (nI (p)), .int (nI (u)), .int (nI (e)), unk, unk] [] S 0
  have hq := hg p hp
  obtain ⟨z1, z2⟩ := hq.2.1 (by rw [hk]; decide)
  refine g_aload_n C dX12_remainder_0 rfl ?_
  refine g_iload_n C dX12_remainder_1 rfl ?_
  refine n_iconst C 0 dX12_remainder_2 ?_
  refine n_iconst C 1 dX12_remainder_3 ?_
  refine g_callS C (k_in _ (in_lo (by omega)) (in_hi (m := 2) hp (by decide))) so_X12_102 dX12_remainder_4 rfl rfl (rm_ok (M' := MX12_remainder) hR (by decide)) (Nat.le_of_ble_eq_true rfl) (fun v9 S9 h9 => ?_)
  obtain ⟨rfl, h9⟩ := h9
  refine g_S S h9 ?_
  refine g_n0 [.int (bI (true)), .ref 75] rfl rfl rfl ?_
  refine b_if_ne C 14 dX12_remainder_7 (fun h7 => ?_) (fun h7 => absurd h7 (by decide))
  refine g_aload_n C dX12_remainder_14 rfl ?_
  refine g_getR C fo_X12_23 dX12_remainder_15 rfl (by decide) (fun _ => rfl) (gs_75_6 hS) ?_
  refine g_iload_n C dX12_remainder_18 rfl ?_
  refine n_iconst C 0 dX12_remainder_19 ?_
  refine n_iconst C 1 dX12_remainder_20 ?_
  refine g_callS C (k_in _ (in_lo (by omega)) (in_hi (m := 2) hp (by decide))) so_X12_102 dX12_remainder_21 rfl rfl (rm_ok (M' := MX12_remainder) hR (by decide)) (Nat.le_of_ble_eq_true rfl) (fun v9 S9 h9 => ?_)
  obtain ⟨rfl, h9⟩ := h9
  refine g_S S h9 ?_
  refine g_n0 [.int (bI (true)), .ref 80, .ref 75] rfl rfl rfl ?_
  refine b_if_eq C 31 dX12_remainder_24 (fun h24 => absurd h24 (by decide)) (fun h24 => ?_)
  refine g_iload_n C dX12_remainder_27 rfl ?_
  refine g_goto C 32 dX12_remainder_28 (by decide) ?_
  refine n_iald C (v := (nI (2))) dX12_remainder_32 rfl (by decide) ((hM.2.2.2.2.2.1 p hp).1.trans (by rw [hk])) ?_ (by omega)
  refine n_if_ne C 40 dX12_remainder_33 (fun h33 => ?_) (fun h33 => absurd h33 (by omega))
  refine n_iconst C 0 dX12_remainder_40 ?_
  refine g_putI C fo_X12_98 dX12_remainder_41 rfl (by decide) rfl ?_
  refine g_aload_n C dX12_remainder_44 rfl ?_
  refine g_getI C (a := (nI (0))) fo_X12_98 dX12_remainder_45 rfl (by decide) (fun _ => rfl) rfl ?_
  refine n_if_eq C 53 dX12_remainder_48 (fun h48 => ?_) (fun h48 => absurd h48 (by decide))
  refine g_iload_n C dX12_remainder_53 rfl ?_
  refine n_iconst C 0 dX12_remainder_54 ?_
  refine g_aload_n C dX12_remainder_55 rfl ?_
  refine g_getR C fo_X12_26 dX12_remainder_56 rfl (by decide) (fun _ => rfl) (gs_75_7 hS) ?_
  refine g_iload_n C dX12_remainder_59 rfl ?_
  refine n_iald C (v := (nI ((A.2.2.1 p).2))) dX12_remainder_60 rfl (by decide) (hM.2.2.2.2.2.1 p hp).2 ?_ (by omega)
  refine n_iconst C 1 dX12_remainder_61 ?_
  refine g_isub C dX12_remainder_62 ?_
  refine g_callS C (k_in _ (in_lo (by omega)) (in_hi' hu (by omega))) so_X12_102 dX12_remainder_63 rfl rfl (rm_ok (M' := MX12_remainder) hR (by decide)) (Nat.le_of_ble_eq_true rfl) (fun v9 S9 h9 => ?_)
  obtain ⟨rfl, h9⟩ := h9
  refine g_S (wI S 75 (va_up (mI S 75) 0 (nI (0)))) h9 ?_
  refine g_n0 [.int (bI (true))] rfl rfl rfl ?_
  refine b_if_eq C 85 dX12_remainder_66 (fun h66 => absurd h66 (by decide)) (fun h66 => ?_)
  refine g_iload_n C dX12_remainder_69 rfl ?_
  refine n_iconst C 0 dX12_remainder_70 ?_
  refine g_aload_n C dX12_remainder_71 rfl ?_
  refine g_getR C fo_X12_26 dX12_remainder_72 rfl (by decide) (fun _ => rfl) (gs_75_7 hS) ?_
  refine g_iload_n C dX12_remainder_75 rfl ?_
  refine n_iald C (v := (nI ((A.2.2.1 p).2))) dX12_remainder_76 rfl (by decide) (hM.2.2.2.2.2.1 p hp).2 ?_ (by omega)
  refine n_iconst C 1 dX12_remainder_77 ?_
  refine g_isub C dX12_remainder_78 ?_
  refine g_callS C (k_in _ (in_lo (by omega)) (in_hi' hw (by omega))) so_X12_102 dX12_remainder_79 rfl rfl (rm_ok (M' := MX12_remainder) hR (by decide)) (Nat.le_of_ble_eq_true rfl) (fun v9 S9 h9 => ?_)
  obtain ⟨rfl, h9⟩ := h9
  refine g_S (wI S 75 (va_up (mI S 75) 0 (nI (0)))) h9 ?_
  refine g_n0 [.int (bI (true))] rfl rfl rfl ?_
  refine b_if_ne C 92 dX12_remainder_82 (fun h82 => ?_) (fun h82 => absurd h82 (by decide))
  refine n_bipush C 21 dX12_remainder_92 ?_
  refine g_iload_n C dX12_remainder_94 rfl ?_
  refine n_imul C dX12_remainder_95 ?_
  refine g_iload_n C dX12_remainder_96 rfl ?_
  refine n_iadd C dX12_remainder_97 ?_
  refine g_istore C (by rw [hmL]; decide) dX12_remainder_98 [.ref 75, .int (nI (p)), .int (nI (u)), .int (nI (e)), .int (nI (((21) * (p)) + (u))), unk] rfl ?_
  refine n_bipush C 21 dX12_remainder_100 ?_
  refine g_iload_n C dX12_remainder_102 rfl ?_
  refine n_imul C dX12_remainder_103 ?_
  refine g_iload_n C dX12_remainder_104 rfl ?_
  refine n_iadd C dX12_remainder_105 ?_
  refine g_istore C (by rw [hmL]; decide) dX12_remainder_106 [.ref 75, .int (nI (p)), .int (nI (u)), .int (nI (e)), .int (nI (((21) * (p)) + (u))), .int (nI (((21) * (p)) + (e)))] rfl ?_
  refine g_aload_n C dX12_remainder_108 rfl ?_
  refine g_getR C fo_X12_23 dX12_remainder_109 rfl (by decide) (fun _ => rfl) (gs_75_6 hS) ?_
  refine g_iload_n C dX12_remainder_112 rfl ?_
  refine n_iald C (v := (nI (2))) dX12_remainder_113 rfl (by decide) ((hM.2.2.2.2.2.1 p hp).1.trans (by rw [hk])) ?_ (by omega)
  refine n_iconst C 1 dX12_remainder_114 ?_
  refine n_ic_ne C 133 dX12_remainder_115 (fun h115 => ?_) (fun h115 => absurd h115 (by omega))
  refine g_aload_n C dX12_remainder_133 rfl ?_
  refine g_getR C fo_X12_33 dX12_remainder_134 rfl (by decide) (fun _ => rfl) (gs_75_9 hS) ?_
  refine g_iload C dX12_remainder_137 rfl ?_
  refine n_dald C (v := A.2.2.2.2 (21 * p + e)) dX12_remainder_139 rfl (by decide) (congrFun hM.2.2.2.2.2.2.2 _) ?_ (by omega)
  refine g_dconst0 C dX12_remainder_140 ?_
  refine g_dcmp C dX12_remainder_141 ?_
  refine dv_if_ne C 152 dX12_remainder_142 pe PV.z0 (fun h142 => ?_) (fun h142 => absurd h142 (by omega))
  refine g_aload_n C dX12_remainder_152 rfl ?_
  refine g_getR C fo_X12_23 dX12_remainder_153 rfl (by decide) (fun _ => rfl) (gs_75_6 hS) ?_
  refine g_iload_n C dX12_remainder_156 rfl ?_
  refine n_iald C (v := (nI (2))) dX12_remainder_157 rfl (by decide) ((hM.2.2.2.2.2.1 p hp).1.trans (by rw [hk])) ?_ (by omega)
  refine n_iconst C 1 dX12_remainder_158 ?_
  refine n_ic_ne C 181 dX12_remainder_159 (fun h159 => ?_) (fun h159 => absurd h159 (by omega))
  refine g_aload_n C dX12_remainder_181 rfl ?_
  refine g_getR C fo_X12_33 dX12_remainder_182 rfl (by decide) (fun _ => rfl) (gs_75_9 hS) ?_
  refine g_iload C dX12_remainder_185 rfl ?_
  refine n_dald C (v := A.2.2.2.2 (21 * p + u)) dX12_remainder_187 rfl (by decide) (congrFun hM.2.2.2.2.2.2.2 _) ?_ (by omega)
  refine g_aload_n C dX12_remainder_188 rfl ?_
  refine g_getR C fo_X12_33 dX12_remainder_189 rfl (by decide) (fun _ => rfl) (gs_75_9 hS) ?_
  refine g_iload C dX12_remainder_192 rfl ?_
  refine n_dald C (v := A.2.2.2.2 (21 * p + e)) dX12_remainder_194 rfl (by decide) (congrFun hM.2.2.2.2.2.2.2 _) ?_ (by omega)
  refine g_drem C dX12_remainder_195 (pu.rem pe h0).ok ?_
  exact g_dret C E dX12_remainder_196 (by rw [hR]; decide) (by rw [hR]; decide) ⟨rfl, rfl⟩

set_option maxRecDepth 100000 in
theorem m_remainder_z2 (l : Launch) {S : pv_M} {A : Ab} (hS : GS S) (hM : MSt S A) (hg : gdW A.2.2) {p : Nat} (hp : p < 2) (hk : (A.2.2.1 p).1 = 2) {u e : Nat} (hu : u < (A.2.2.1 p).2) (hw : e < (A.2.2.1 p).2) (pe : PV (A.2.2.2.2 (21 * p + e)) 0) : mt l MX12_remainder 106 [.ref 75, .int (nI (p)), .int (nI (u)), .int (nI (e))] S (fun v S' => v = some (.double FP.dconst0) ∧ S' = th (th S 0) 4) := by
  refine mt_of (by decide) (Nat.le_of_ble_eq_true rfl) ?_
  intro x hl hR hmL C E
  show GG x 106 0 0 [.ref 75, .int (nI (p)), .int (nI (u)), .int (nI (e)), unk, unk] [] S 0
  have hq := hg p hp
  obtain ⟨z1, z2⟩ := hq.2.1 (by rw [hk]; decide)
  refine g_aload_n C dX12_remainder_0 rfl ?_
  refine g_iload_n C dX12_remainder_1 rfl ?_
  refine n_iconst C 0 dX12_remainder_2 ?_
  refine n_iconst C 1 dX12_remainder_3 ?_
  refine g_callS C (k_in _ (in_lo (by omega)) (in_hi (m := 2) hp (by decide))) so_X12_102 dX12_remainder_4 rfl rfl (rm_ok (M' := MX12_remainder) hR (by decide)) (Nat.le_of_ble_eq_true rfl) (fun v9 S9 h9 => ?_)
  obtain ⟨rfl, h9⟩ := h9
  refine g_S S h9 ?_
  refine g_n0 [.int (bI (true)), .ref 75] rfl rfl rfl ?_
  refine b_if_ne C 14 dX12_remainder_7 (fun h7 => ?_) (fun h7 => absurd h7 (by decide))
  refine g_aload_n C dX12_remainder_14 rfl ?_
  refine g_getR C fo_X12_23 dX12_remainder_15 rfl (by decide) (fun _ => rfl) (gs_75_6 hS) ?_
  refine g_iload_n C dX12_remainder_18 rfl ?_
  refine n_iconst C 0 dX12_remainder_19 ?_
  refine n_iconst C 1 dX12_remainder_20 ?_
  refine g_callS C (k_in _ (in_lo (by omega)) (in_hi (m := 2) hp (by decide))) so_X12_102 dX12_remainder_21 rfl rfl (rm_ok (M' := MX12_remainder) hR (by decide)) (Nat.le_of_ble_eq_true rfl) (fun v9 S9 h9 => ?_)
  obtain ⟨rfl, h9⟩ := h9
  refine g_S S h9 ?_
  refine g_n0 [.int (bI (true)), .ref 80, .ref 75] rfl rfl rfl ?_
  refine b_if_eq C 31 dX12_remainder_24 (fun h24 => absurd h24 (by decide)) (fun h24 => ?_)
  refine g_iload_n C dX12_remainder_27 rfl ?_
  refine g_goto C 32 dX12_remainder_28 (by decide) ?_
  refine n_iald C (v := (nI (2))) dX12_remainder_32 rfl (by decide) ((hM.2.2.2.2.2.1 p hp).1.trans (by rw [hk])) ?_ (by omega)
  refine n_if_ne C 40 dX12_remainder_33 (fun h33 => ?_) (fun h33 => absurd h33 (by omega))
  refine n_iconst C 0 dX12_remainder_40 ?_
  refine g_putI C fo_X12_98 dX12_remainder_41 rfl (by decide) rfl ?_
  refine g_aload_n C dX12_remainder_44 rfl ?_
  refine g_getI C (a := (nI (0))) fo_X12_98 dX12_remainder_45 rfl (by decide) (fun _ => rfl) rfl ?_
  refine n_if_eq C 53 dX12_remainder_48 (fun h48 => ?_) (fun h48 => absurd h48 (by decide))
  refine g_iload_n C dX12_remainder_53 rfl ?_
  refine n_iconst C 0 dX12_remainder_54 ?_
  refine g_aload_n C dX12_remainder_55 rfl ?_
  refine g_getR C fo_X12_26 dX12_remainder_56 rfl (by decide) (fun _ => rfl) (gs_75_7 hS) ?_
  refine g_iload_n C dX12_remainder_59 rfl ?_
  refine n_iald C (v := (nI ((A.2.2.1 p).2))) dX12_remainder_60 rfl (by decide) (hM.2.2.2.2.2.1 p hp).2 ?_ (by omega)
  refine n_iconst C 1 dX12_remainder_61 ?_
  refine g_isub C dX12_remainder_62 ?_
  refine g_callS C (k_in _ (in_lo (by omega)) (in_hi' hu (by omega))) so_X12_102 dX12_remainder_63 rfl rfl (rm_ok (M' := MX12_remainder) hR (by decide)) (Nat.le_of_ble_eq_true rfl) (fun v9 S9 h9 => ?_)
  obtain ⟨rfl, h9⟩ := h9
  refine g_S (wI S 75 (va_up (mI S 75) 0 (nI (0)))) h9 ?_
  refine g_n0 [.int (bI (true))] rfl rfl rfl ?_
  refine b_if_eq C 85 dX12_remainder_66 (fun h66 => absurd h66 (by decide)) (fun h66 => ?_)
  refine g_iload_n C dX12_remainder_69 rfl ?_
  refine n_iconst C 0 dX12_remainder_70 ?_
  refine g_aload_n C dX12_remainder_71 rfl ?_
  refine g_getR C fo_X12_26 dX12_remainder_72 rfl (by decide) (fun _ => rfl) (gs_75_7 hS) ?_
  refine g_iload_n C dX12_remainder_75 rfl ?_
  refine n_iald C (v := (nI ((A.2.2.1 p).2))) dX12_remainder_76 rfl (by decide) (hM.2.2.2.2.2.1 p hp).2 ?_ (by omega)
  refine n_iconst C 1 dX12_remainder_77 ?_
  refine g_isub C dX12_remainder_78 ?_
  refine g_callS C (k_in _ (in_lo (by omega)) (in_hi' hw (by omega))) so_X12_102 dX12_remainder_79 rfl rfl (rm_ok (M' := MX12_remainder) hR (by decide)) (Nat.le_of_ble_eq_true rfl) (fun v9 S9 h9 => ?_)
  obtain ⟨rfl, h9⟩ := h9
  refine g_S (wI S 75 (va_up (mI S 75) 0 (nI (0)))) h9 ?_
  refine g_n0 [.int (bI (true))] rfl rfl rfl ?_
  refine b_if_ne C 92 dX12_remainder_82 (fun h82 => ?_) (fun h82 => absurd h82 (by decide))
  refine n_bipush C 21 dX12_remainder_92 ?_
  refine g_iload_n C dX12_remainder_94 rfl ?_
  refine n_imul C dX12_remainder_95 ?_
  refine g_iload_n C dX12_remainder_96 rfl ?_
  refine n_iadd C dX12_remainder_97 ?_
  refine g_istore C (by rw [hmL]; decide) dX12_remainder_98 [.ref 75, .int (nI (p)), .int (nI (u)), .int (nI (e)), .int (nI (((21) * (p)) + (u))), unk] rfl ?_
  refine n_bipush C 21 dX12_remainder_100 ?_
  refine g_iload_n C dX12_remainder_102 rfl ?_
  refine n_imul C dX12_remainder_103 ?_
  refine g_iload_n C dX12_remainder_104 rfl ?_
  refine n_iadd C dX12_remainder_105 ?_
  refine g_istore C (by rw [hmL]; decide) dX12_remainder_106 [.ref 75, .int (nI (p)), .int (nI (u)), .int (nI (e)), .int (nI (((21) * (p)) + (u))), .int (nI (((21) * (p)) + (e)))] rfl ?_
  refine g_aload_n C dX12_remainder_108 rfl ?_
  refine g_getR C fo_X12_23 dX12_remainder_109 rfl (by decide) (fun _ => rfl) (gs_75_6 hS) ?_
  refine g_iload_n C dX12_remainder_112 rfl ?_
  refine n_iald C (v := (nI (2))) dX12_remainder_113 rfl (by decide) ((hM.2.2.2.2.2.1 p hp).1.trans (by rw [hk])) ?_ (by omega)
  refine n_iconst C 1 dX12_remainder_114 ?_
  refine n_ic_ne C 133 dX12_remainder_115 (fun h115 => ?_) (fun h115 => absurd h115 (by omega))
  refine g_aload_n C dX12_remainder_133 rfl ?_
  refine g_getR C fo_X12_33 dX12_remainder_134 rfl (by decide) (fun _ => rfl) (gs_75_9 hS) ?_
  refine g_iload C dX12_remainder_137 rfl ?_
  refine n_dald C (v := A.2.2.2.2 (21 * p + e)) dX12_remainder_139 rfl (by decide) (congrFun hM.2.2.2.2.2.2.2 _) ?_ (by omega)
  refine g_dconst0 C dX12_remainder_140 ?_
  refine g_dcmp C dX12_remainder_141 ?_
  refine dv_if_ne C 152 dX12_remainder_142 pe PV.z0 (fun h142 => absurd rfl h142) (fun h142 => ?_)
  refine g_aload_n C dX12_remainder_145 rfl ?_
  refine n_iconst C 4 dX12_remainder_146 ?_
  refine g_putI C fo_X12_98 dX12_remainder_147 rfl (by decide) rfl ?_
  refine g_dconst0 C dX12_remainder_150 ?_
  exact g_dret C E dX12_remainder_151 (by rw [hR]; decide) (by rw [hR]; decide) ⟨rfl, rfl⟩

set_option maxRecDepth 100000 in
theorem m_remainder_u2 (l : Launch) {S : pv_M} {A : Ab} (hS : GS S) (hM : MSt S A) (hg : gdW A.2.2) {p : Nat} (hp : p < 2) (hk : (A.2.2.1 p).1 = 2) {u e : Int32} (h : badI u (A.2.2.1 p).2) : mt l MX12_remainder 106 [.ref 75, .int (nI (p)), .int (u), .int (e)] S (fun v S' => v = some (.double FP.dconst0) ∧ S' = th (th S 0) 3) := by
  refine mt_of (by decide) (Nat.le_of_ble_eq_true rfl) ?_
  intro x hl hR hmL C E
  show GG x 106 0 0 [.ref 75, .int (nI (p)), .int (u), .int (e), unk, unk] [] S 0
  have hq := hg p hp
  obtain ⟨z1, z2⟩ := hq.2.1 (by rw [hk]; decide)
  refine g_aload_n C dX12_remainder_0 rfl ?_
  refine g_iload_n C dX12_remainder_1 rfl ?_
  refine n_iconst C 0 dX12_remainder_2 ?_
  refine n_iconst C 1 dX12_remainder_3 ?_
  refine g_callS C (k_in _ (in_lo (by omega)) (in_hi (m := 2) hp (by decide))) so_X12_102 dX12_remainder_4 rfl rfl (rm_ok (M' := MX12_remainder) hR (by decide)) (Nat.le_of_ble_eq_true rfl) (fun v9 S9 h9 => ?_)
  obtain ⟨rfl, h9⟩ := h9
  refine g_S S h9 ?_
  refine g_n0 [.int (bI (true)), .ref 75] rfl rfl rfl ?_
  refine b_if_ne C 14 dX12_remainder_7 (fun h7 => ?_) (fun h7 => absurd h7 (by decide))
  refine g_aload_n C dX12_remainder_14 rfl ?_
  refine g_getR C fo_X12_23 dX12_remainder_15 rfl (by decide) (fun _ => rfl) (gs_75_6 hS) ?_
  refine g_iload_n C dX12_remainder_18 rfl ?_
  refine n_iconst C 0 dX12_remainder_19 ?_
  refine n_iconst C 1 dX12_remainder_20 ?_
  refine g_callS C (k_in _ (in_lo (by omega)) (in_hi (m := 2) hp (by decide))) so_X12_102 dX12_remainder_21 rfl rfl (rm_ok (M' := MX12_remainder) hR (by decide)) (Nat.le_of_ble_eq_true rfl) (fun v9 S9 h9 => ?_)
  obtain ⟨rfl, h9⟩ := h9
  refine g_S S h9 ?_
  refine g_n0 [.int (bI (true)), .ref 80, .ref 75] rfl rfl rfl ?_
  refine b_if_eq C 31 dX12_remainder_24 (fun h24 => absurd h24 (by decide)) (fun h24 => ?_)
  refine g_iload_n C dX12_remainder_27 rfl ?_
  refine g_goto C 32 dX12_remainder_28 (by decide) ?_
  refine n_iald C (v := (nI (2))) dX12_remainder_32 rfl (by decide) ((hM.2.2.2.2.2.1 p hp).1.trans (by rw [hk])) ?_ (by omega)
  refine n_if_ne C 40 dX12_remainder_33 (fun h33 => ?_) (fun h33 => absurd h33 (by omega))
  refine n_iconst C 0 dX12_remainder_40 ?_
  refine g_putI C fo_X12_98 dX12_remainder_41 rfl (by decide) rfl ?_
  refine g_aload_n C dX12_remainder_44 rfl ?_
  refine g_getI C (a := (nI (0))) fo_X12_98 dX12_remainder_45 rfl (by decide) (fun _ => rfl) rfl ?_
  refine n_if_eq C 53 dX12_remainder_48 (fun h48 => ?_) (fun h48 => absurd h48 (by decide))
  refine g_iload_n C dX12_remainder_53 rfl ?_
  refine n_iconst C 0 dX12_remainder_54 ?_
  refine g_aload_n C dX12_remainder_55 rfl ?_
  refine g_getR C fo_X12_26 dX12_remainder_56 rfl (by decide) (fun _ => rfl) (gs_75_7 hS) ?_
  refine g_iload_n C dX12_remainder_59 rfl ?_
  refine n_iald C (v := (nI ((A.2.2.1 p).2))) dX12_remainder_60 rfl (by decide) (hM.2.2.2.2.2.1 p hp).2 ?_ (by omega)
  refine n_iconst C 1 dX12_remainder_61 ?_
  refine g_isub C dX12_remainder_62 ?_
  refine g_callS C (k_inF _ (in_bad h (by omega))) so_X12_102 dX12_remainder_63 rfl rfl (rm_ok (M' := MX12_remainder) hR (by decide)) (Nat.le_of_ble_eq_true rfl) (fun v9 S9 h9 => ?_)
  obtain ⟨rfl, h9⟩ := h9
  refine g_S (wI S 75 (va_up (mI S 75) 0 (nI (0)))) h9 ?_
  refine g_n0 [.int (bI (false))] rfl rfl rfl ?_
  refine b_if_eq C 85 dX12_remainder_66 (fun h66 => ?_) (fun h66 => absurd h66 (by decide))
  refine g_aload_n C dX12_remainder_85 rfl ?_
  refine n_iconst C 3 dX12_remainder_86 ?_
  refine g_putI C fo_X12_98 dX12_remainder_87 rfl (by decide) rfl ?_
  refine g_dconst0 C dX12_remainder_90 ?_
  exact g_dret C E dX12_remainder_91 (by rw [hR]; decide) (by rw [hR]; decide) ⟨rfl, rfl⟩

set_option maxRecDepth 100000 in
theorem m_remainder_w2 (l : Launch) {S : pv_M} {A : Ab} (hS : GS S) (hM : MSt S A) (hg : gdW A.2.2) {p : Nat} (hp : p < 2) (hk : (A.2.2.1 p).1 = 2) {u : Nat} {e : Int32} (hu : u < (A.2.2.1 p).2) (h : badI e (A.2.2.1 p).2) : mt l MX12_remainder 106 [.ref 75, .int (nI (p)), .int (nI (u)), .int (e)] S (fun v S' => v = some (.double FP.dconst0) ∧ S' = th (th S 0) 3) := by
  refine mt_of (by decide) (Nat.le_of_ble_eq_true rfl) ?_
  intro x hl hR hmL C E
  show GG x 106 0 0 [.ref 75, .int (nI (p)), .int (nI (u)), .int (e), unk, unk] [] S 0
  have hq := hg p hp
  obtain ⟨z1, z2⟩ := hq.2.1 (by rw [hk]; decide)
  refine g_aload_n C dX12_remainder_0 rfl ?_
  refine g_iload_n C dX12_remainder_1 rfl ?_
  refine n_iconst C 0 dX12_remainder_2 ?_
  refine n_iconst C 1 dX12_remainder_3 ?_
  refine g_callS C (k_in _ (in_lo (by omega)) (in_hi (m := 2) hp (by decide))) so_X12_102 dX12_remainder_4 rfl rfl (rm_ok (M' := MX12_remainder) hR (by decide)) (Nat.le_of_ble_eq_true rfl) (fun v9 S9 h9 => ?_)
  obtain ⟨rfl, h9⟩ := h9
  refine g_S S h9 ?_
  refine g_n0 [.int (bI (true)), .ref 75] rfl rfl rfl ?_
  refine b_if_ne C 14 dX12_remainder_7 (fun h7 => ?_) (fun h7 => absurd h7 (by decide))
  refine g_aload_n C dX12_remainder_14 rfl ?_
  refine g_getR C fo_X12_23 dX12_remainder_15 rfl (by decide) (fun _ => rfl) (gs_75_6 hS) ?_
  refine g_iload_n C dX12_remainder_18 rfl ?_
  refine n_iconst C 0 dX12_remainder_19 ?_
  refine n_iconst C 1 dX12_remainder_20 ?_
  refine g_callS C (k_in _ (in_lo (by omega)) (in_hi (m := 2) hp (by decide))) so_X12_102 dX12_remainder_21 rfl rfl (rm_ok (M' := MX12_remainder) hR (by decide)) (Nat.le_of_ble_eq_true rfl) (fun v9 S9 h9 => ?_)
  obtain ⟨rfl, h9⟩ := h9
  refine g_S S h9 ?_
  refine g_n0 [.int (bI (true)), .ref 80, .ref 75] rfl rfl rfl ?_
  refine b_if_eq C 31 dX12_remainder_24 (fun h24 => absurd h24 (by decide)) (fun h24 => ?_)
  refine g_iload_n C dX12_remainder_27 rfl ?_
  refine g_goto C 32 dX12_remainder_28 (by decide) ?_
  refine n_iald C (v := (nI (2))) dX12_remainder_32 rfl (by decide) ((hM.2.2.2.2.2.1 p hp).1.trans (by rw [hk])) ?_ (by omega)
  refine n_if_ne C 40 dX12_remainder_33 (fun h33 => ?_) (fun h33 => absurd h33 (by omega))
  refine n_iconst C 0 dX12_remainder_40 ?_
  refine g_putI C fo_X12_98 dX12_remainder_41 rfl (by decide) rfl ?_
  refine g_aload_n C dX12_remainder_44 rfl ?_
  refine g_getI C (a := (nI (0))) fo_X12_98 dX12_remainder_45 rfl (by decide) (fun _ => rfl) rfl ?_
  refine n_if_eq C 53 dX12_remainder_48 (fun h48 => ?_) (fun h48 => absurd h48 (by decide))
  refine g_iload_n C dX12_remainder_53 rfl ?_
  refine n_iconst C 0 dX12_remainder_54 ?_
  refine g_aload_n C dX12_remainder_55 rfl ?_
  refine g_getR C fo_X12_26 dX12_remainder_56 rfl (by decide) (fun _ => rfl) (gs_75_7 hS) ?_
  refine g_iload_n C dX12_remainder_59 rfl ?_
  refine n_iald C (v := (nI ((A.2.2.1 p).2))) dX12_remainder_60 rfl (by decide) (hM.2.2.2.2.2.1 p hp).2 ?_ (by omega)
  refine n_iconst C 1 dX12_remainder_61 ?_
  refine g_isub C dX12_remainder_62 ?_
  refine g_callS C (k_in _ (in_lo (by omega)) (in_hi' hu (by omega))) so_X12_102 dX12_remainder_63 rfl rfl (rm_ok (M' := MX12_remainder) hR (by decide)) (Nat.le_of_ble_eq_true rfl) (fun v9 S9 h9 => ?_)
  obtain ⟨rfl, h9⟩ := h9
  refine g_S (wI S 75 (va_up (mI S 75) 0 (nI (0)))) h9 ?_
  refine g_n0 [.int (bI (true))] rfl rfl rfl ?_
  refine b_if_eq C 85 dX12_remainder_66 (fun h66 => absurd h66 (by decide)) (fun h66 => ?_)
  refine g_iload_n C dX12_remainder_69 rfl ?_
  refine n_iconst C 0 dX12_remainder_70 ?_
  refine g_aload_n C dX12_remainder_71 rfl ?_
  refine g_getR C fo_X12_26 dX12_remainder_72 rfl (by decide) (fun _ => rfl) (gs_75_7 hS) ?_
  refine g_iload_n C dX12_remainder_75 rfl ?_
  refine n_iald C (v := (nI ((A.2.2.1 p).2))) dX12_remainder_76 rfl (by decide) (hM.2.2.2.2.2.1 p hp).2 ?_ (by omega)
  refine n_iconst C 1 dX12_remainder_77 ?_
  refine g_isub C dX12_remainder_78 ?_
  refine g_callS C (k_inF _ (in_bad h (by omega))) so_X12_102 dX12_remainder_79 rfl rfl (rm_ok (M' := MX12_remainder) hR (by decide)) (Nat.le_of_ble_eq_true rfl) (fun v9 S9 h9 => ?_)
  obtain ⟨rfl, h9⟩ := h9
  refine g_S (wI S 75 (va_up (mI S 75) 0 (nI (0)))) h9 ?_
  refine g_n0 [.int (bI (false))] rfl rfl rfl ?_
  refine b_if_ne C 92 dX12_remainder_82 (fun h82 => absurd h82 (by decide)) (fun h82 => ?_)
  refine g_aload_n C dX12_remainder_85 rfl ?_
  refine n_iconst C 3 dX12_remainder_86 ?_
  refine g_putI C fo_X12_98 dX12_remainder_87 rfl (by decide) rfl ?_
  refine g_dconst0 C dX12_remainder_90 ?_
  exact g_dret C E dX12_remainder_91 (by rw [hR]; decide) (by rw [hR]; decide) ⟨rfl, rfl⟩

set_option maxRecDepth 100000 in
theorem m_remainder_m (l : Launch) {S : pv_M} {A : Ab} (hS : GS S) (hM : MSt S A) (hg : gdW A.2.2) {p : Nat} (hp : p < 2) (hk : (A.2.2.1 p).1 = 0) {u e : Int32} : mt l MX12_remainder 106 [.ref 75, .int (nI (p)), .int (u), .int (e)] S (fun v S' => v = some (.double FP.dconst0) ∧ S' = th S 2) := by
  refine mt_of (by decide) (Nat.le_of_ble_eq_true rfl) ?_
  intro x hl hR hmL C E
  show GG x 106 0 0 [.ref 75, .int (nI (p)), .int (u), .int (e), unk, unk] [] S 0
  refine g_aload_n C dX12_remainder_0 rfl ?_
  refine g_iload_n C dX12_remainder_1 rfl ?_
  refine n_iconst C 0 dX12_remainder_2 ?_
  refine n_iconst C 1 dX12_remainder_3 ?_
  refine g_callS C (k_in _ (in_lo (by omega)) (in_hi (m := 2) hp (by decide))) so_X12_102 dX12_remainder_4 rfl rfl (rm_ok (M' := MX12_remainder) hR (by decide)) (Nat.le_of_ble_eq_true rfl) (fun v9 S9 h9 => ?_)
  obtain ⟨rfl, h9⟩ := h9
  refine g_S S h9 ?_
  refine g_n0 [.int (bI (true)), .ref 75] rfl rfl rfl ?_
  refine b_if_ne C 14 dX12_remainder_7 (fun h7 => ?_) (fun h7 => absurd h7 (by decide))
  refine g_aload_n C dX12_remainder_14 rfl ?_
  refine g_getR C fo_X12_23 dX12_remainder_15 rfl (by decide) (fun _ => rfl) (gs_75_6 hS) ?_
  refine g_iload_n C dX12_remainder_18 rfl ?_
  refine n_iconst C 0 dX12_remainder_19 ?_
  refine n_iconst C 1 dX12_remainder_20 ?_
  refine g_callS C (k_in _ (in_lo (by omega)) (in_hi (m := 2) hp (by decide))) so_X12_102 dX12_remainder_21 rfl rfl (rm_ok (M' := MX12_remainder) hR (by decide)) (Nat.le_of_ble_eq_true rfl) (fun v9 S9 h9 => ?_)
  obtain ⟨rfl, h9⟩ := h9
  refine g_S S h9 ?_
  refine g_n0 [.int (bI (true)), .ref 80, .ref 75] rfl rfl rfl ?_
  refine b_if_eq C 31 dX12_remainder_24 (fun h24 => absurd h24 (by decide)) (fun h24 => ?_)
  refine g_iload_n C dX12_remainder_27 rfl ?_
  refine g_goto C 32 dX12_remainder_28 (by decide) ?_
  refine n_iald C (v := (nI (0))) dX12_remainder_32 rfl (by decide) ((hM.2.2.2.2.2.1 p hp).1.trans (by rw [hk])) ?_ (by omega)
  refine n_if_ne C 40 dX12_remainder_33 (fun h33 => absurd h33 (by omega)) (fun h33 => ?_)
  refine n_iconst C 2 dX12_remainder_36 ?_
  refine g_goto C 41 dX12_remainder_37 (by decide) ?_
  refine g_putI C fo_X12_98 dX12_remainder_41 rfl (by decide) rfl ?_
  refine g_aload_n C dX12_remainder_44 rfl ?_
  refine g_getI C (a := (nI (2))) fo_X12_98 dX12_remainder_45 rfl (by decide) (fun _ => rfl) rfl ?_
  refine n_if_eq C 53 dX12_remainder_48 (fun h48 => absurd h48 (by decide)) (fun h48 => ?_)
  refine g_dconst0 C dX12_remainder_51 ?_
  exact g_dret C E dX12_remainder_52 (by rw [hR]; decide) (by rw [hR]; decide) ⟨rfl, rfl⟩

set_option maxRecDepth 100000 in
theorem m_remainder_p (l : Launch) {S : pv_M} {p : Int32} (hS : GS S) (h : badI p 2) {u e : Int32} : mt l MX12_remainder 106 [.ref 75, .int (p), .int (u), .int (e)] S (fun v S' => v = some (.double FP.dconst0) ∧ S' = th S 1) := by
  refine mt_of (by decide) (Nat.le_of_ble_eq_true rfl) ?_
  intro x hl hR hmL C E
  show GG x 106 0 0 [.ref 75, .int (p), .int (u), .int (e), unk, unk] [] S 0
  refine g_aload_n C dX12_remainder_0 rfl ?_
  refine g_iload_n C dX12_remainder_1 rfl ?_
  refine n_iconst C 0 dX12_remainder_2 ?_
  refine n_iconst C 1 dX12_remainder_3 ?_
  refine g_callS C (k_inF _ (in_badP h (by decide) (by decide))) so_X12_102 dX12_remainder_4 rfl rfl (rm_ok (M' := MX12_remainder) hR (by decide)) (Nat.le_of_ble_eq_true rfl) (fun v9 S9 h9 => ?_)
  obtain ⟨rfl, h9⟩ := h9
  refine g_S S h9 ?_
  refine g_n0 [.int (bI (false)), .ref 75] rfl rfl rfl ?_
  refine b_if_ne C 14 dX12_remainder_7 (fun h7 => absurd h7 (by decide)) (fun h7 => ?_)
  refine n_iconst C 1 dX12_remainder_10 ?_
  refine g_goto C 41 dX12_remainder_11 (by decide) ?_
  refine g_putI C fo_X12_98 dX12_remainder_41 rfl (by decide) rfl ?_
  refine g_aload_n C dX12_remainder_44 rfl ?_
  refine g_getI C (a := (nI (1))) fo_X12_98 dX12_remainder_45 rfl (by decide) (fun _ => rfl) rfl ?_
  refine n_if_eq C 53 dX12_remainder_48 (fun h48 => absurd h48 (by decide)) (fun h48 => ?_)
  refine g_dconst0 C dX12_remainder_51 ?_
  exact g_dret C E dX12_remainder_52 (by rw [hR]; decide) (by rw [hR]; decide) ⟨rfl, rfl⟩
