theorem MSt.setW {S S' : pv_M} {A : Ab} (h : MSt S A) {w : Nat × (Nat → Nat)} (hw : WdM S' 4 79 w) (hf : FN (fun r => r = 75 ∨ r = 79) S S') (q10 : mI S' 75 10 = mI S 75 10) (q14 : mI S' 75 14 = mI S 75 14) : MSt S' (setW A w) :=
  have q : ∀ r, ¬ (r = 75 ∨ r = 79) → mI S' r = mI S r := fun r hr => (hf.2 r hr).1
  ⟨h.1.keep (q 76 (by decide)) (q 77 (by decide)) (q 78 (by decide)), hw, by rw [q10]; exact h.2.2.1, h.2.2.2.1.keep (q 84 (by decide)) (q 85 (by decide)) (q 86 (by decide)), h.2.2.2.2.1.keep q14 (q 87 (by decide)), h.2.2.2.2.2.keep (q 80 (by decide)) (q 81 (by decide)) (hf.2 82 (by decide)).2.2.1 (hf.2 83 (by decide)).2.2.2⟩

set_option maxRecDepth 100000 in
theorem m_appendLetter (l : Launch) {S : pv_M} {A : Ab} (hS : GS S) (hM : MSt S A) {q : Nat} (h1 : q < 3) (h2 : wM A < 12) : mt l MX12_appendLetter 106 [.ref 75, .int (nI (q))] S (fun v S' => v = some (.int (nI (wM A + 1))) ∧ mI S' 75 0 = nI 0 ∧ MSt S' (setW A (wM A + 1, va_up (wL A) (wM A) q)) ∧ FN mC S S') := by
  refine mt_of (by decide) (Nat.le_of_ble_eq_true rfl) ?_
  intro x hl hR hmL C E
  show GG x 106 0 0 [.ref 75, .int (nI (q))] [] S 0
  have hwm : wM A = A.1.2.1 := rfl
  refine g_iload_n C dX12_appendLetter_0 rfl ?_
  refine g_callS C (k_isLetter _ h1) so_X12_122 dX12_appendLetter_1 rfl rfl (rm_ok (M' := MX12_appendLetter) hR (by decide)) (Nat.le_of_ble_eq_true rfl) (fun v9 S9 h9 => ?_)
  obtain ⟨rfl, h9⟩ := h9
  refine g_S S h9 ?_
  refine g_n0 [.int (bI (true))] rfl rfl rfl ?_
  refine b_if_ne C 13 dX12_appendLetter_4 (fun h4 => ?_) (fun h4 => absurd h4 (by decide))
  refine g_aload_n C dX12_appendLetter_13 rfl ?_
  refine g_getI C fo_X12_146 dX12_appendLetter_14 rfl (by decide) (fun _ => rfl) hM.2.1.1 ?_
  refine n_bipush C 12 dX12_appendLetter_17 ?_
  refine n_ic_ne C 28 dX12_appendLetter_19 (fun h19 => ?_) (fun h19 => absurd h19 (by omega))
  refine g_aload_n C dX12_appendLetter_28 rfl ?_
  refine g_getR C fo_X12_20 dX12_appendLetter_29 rfl (by decide) (fun _ => rfl) (gs_75_5 hS) ?_
  refine g_aload_n C dX12_appendLetter_32 rfl ?_
  refine g_getI C fo_X12_146 dX12_appendLetter_33 rfl (by decide) (fun _ => rfl) hM.2.1.1 ?_
  refine g_iload_n C dX12_appendLetter_36 rfl ?_
  refine g_iast C dX12_appendLetter_37 rfl (by decide) (by omega) rfl ?_
  refine g_aload_n C dX12_appendLetter_38 rfl ?_
  refine g_dup C dX12_appendLetter_39 rfl ?_
  refine g_getI C fo_X12_146 dX12_appendLetter_40 rfl (by decide) (fun _ => rfl) hM.2.1.1 ?_
  refine n_iconst C 1 dX12_appendLetter_43 ?_
  refine n_iadd C dX12_appendLetter_44 ?_
  refine g_putI C fo_X12_146 dX12_appendLetter_45 rfl (by decide) rfl ?_
  refine g_aload_n C dX12_appendLetter_48 rfl ?_
  refine g_aload_n C dX12_appendLetter_49 rfl ?_
  refine g_getI C (a := (nI ((wM A) + (1)))) fo_X12_146 dX12_appendLetter_50 rfl (by decide) (fun _ => rfl) rfl ?_
  refine g_callV C (As := [.int (nI ((wM A) + (1)))]) (k_done _ (hS.fn (FN.tr (FN.wI (P := fun r => r = 75 ∨ r = 79) (by decide)) (FN.wI (P := fun r => r = 75 ∨ r = 79) (by decide))))) vo_X12_132 dX12_appendLetter_53 rfl rfl (by decide) rfl (rm_ok (M' := MX12_appendLetter) hR (by decide)) (Nat.le_of_ble_eq_true rfl) (fun v9 S9 h9 => ?_)
  obtain ⟨rfl, h9⟩ := h9
  refine g_S (wI (wI (wI S 79 (va_up (mI S 79) (wM A) (nI q))) 75 (va_up (mI S 75) 4 (nI (wM A + 1)))) 75 (va_up (mI (wI (wI S 79 (va_up (mI S 79) (wM A) (nI q))) 75 (va_up (mI S 75) 4 (nI (wM A + 1)))) 75) 0 (nI 0))) h9 ?_
  refine g_n0 [.int (nI (wM A + 1))] rfl rfl rfl ?_
  exact g_iret C E dX12_appendLetter_56 (by rw [hR]; decide) (by rw [hR]; decide) ⟨rfl, rfl, hM.setW ⟨rfl, fun i hi => by
    show va_up (mI S 79) (wM A) (nI q) i = nI (va_up (wL A) (wM A) q i)
    by_cases e : i = wM A
    · rw [e, up_same, up_same]
    · rw [va_up_ne _ _ e, va_up_ne _ _ e]; exact hM.2.1.2 i hi⟩ ((FN.tr (FN.wI (P := fun r => r = 75 ∨ r = 79) (by decide)) (FN.wI (P := fun r => r = 75 ∨ r = 79) (by decide))).tr (FN.wI (by decide))) rfl rfl, ((FN.wI (by decide)).tr (FN.wI (by decide))).tr (FN.wI (by decide))⟩

set_option maxRecDepth 100000 in
theorem m_appendLetter_l (l : Launch) {S : pv_M} {p : Int32} (hS : GS S) (h : badI p 3) : mt l MX12_appendLetter 106 [.ref 75, .int (p)] S (fun v S' => v = some (.int (nI 0)) ∧ S' = th S 1) := by
  refine mt_of (by decide) (Nat.le_of_ble_eq_true rfl) ?_
  intro x hl hR hmL C E
  show GG x 106 0 0 [.ref 75, .int (p)] [] S 0
  refine g_iload_n C dX12_appendLetter_0 rfl ?_
  refine g_callS C (k_isLetterF _ h) so_X12_122 dX12_appendLetter_1 rfl rfl (rm_ok (M' := MX12_appendLetter) hR (by decide)) (Nat.le_of_ble_eq_true rfl) (fun v9 S9 h9 => ?_)
  obtain ⟨rfl, h9⟩ := h9
  refine g_S S h9 ?_
  refine g_n0 [.int (bI (false))] rfl rfl rfl ?_
  refine b_if_ne C 13 dX12_appendLetter_4 (fun h4 => absurd h4 (by decide)) (fun h4 => ?_)
  refine g_aload_n C dX12_appendLetter_7 rfl ?_
  refine n_iconst C 1 dX12_appendLetter_8 ?_
  refine g_callV C (As := [.int (nI (1))]) (k_fails _ hS) vo_X12_136 dX12_appendLetter_9 rfl rfl (by decide) rfl (rm_ok (M' := MX12_appendLetter) hR (by decide)) (Nat.le_of_ble_eq_true rfl) (fun v9 S9 h9 => ?_)
  obtain ⟨rfl, h9⟩ := h9
  refine g_S (wI S 75 (va_up (mI S 75) 0 (nI 1))) h9 ?_
  refine g_n0 [.int (nI (0))] rfl rfl rfl ?_
  exact g_iret C E dX12_appendLetter_12 (by rw [hR]; decide) (by rw [hR]; decide) ⟨rfl, rfl⟩

set_option maxRecDepth 100000 in
theorem m_appendLetter_w (l : Launch) {S : pv_M} {A : Ab} (hS : GS S) (hM : MSt S A) {q : Nat} (h1 : q < 3) (h2 : wM A = 12) : mt l MX12_appendLetter 106 [.ref 75, .int (nI (q))] S (fun v S' => v = some (.int (nI 0)) ∧ S' = th S 2) := by
  refine mt_of (by decide) (Nat.le_of_ble_eq_true rfl) ?_
  intro x hl hR hmL C E
  show GG x 106 0 0 [.ref 75, .int (nI (q))] [] S 0
  have hwm : wM A = A.1.2.1 := rfl
  refine g_iload_n C dX12_appendLetter_0 rfl ?_
  refine g_callS C (k_isLetter _ h1) so_X12_122 dX12_appendLetter_1 rfl rfl (rm_ok (M' := MX12_appendLetter) hR (by decide)) (Nat.le_of_ble_eq_true rfl) (fun v9 S9 h9 => ?_)
  obtain ⟨rfl, h9⟩ := h9
  refine g_S S h9 ?_
  refine g_n0 [.int (bI (true))] rfl rfl rfl ?_
  refine b_if_ne C 13 dX12_appendLetter_4 (fun h4 => ?_) (fun h4 => absurd h4 (by decide))
  refine g_aload_n C dX12_appendLetter_13 rfl ?_
  refine g_getI C fo_X12_146 dX12_appendLetter_14 rfl (by decide) (fun _ => rfl) hM.2.1.1 ?_
  refine n_bipush C 12 dX12_appendLetter_17 ?_
  refine n_ic_ne C 28 dX12_appendLetter_19 (fun h19 => absurd h19 (by omega)) (fun h19 => ?_)
  refine g_aload_n C dX12_appendLetter_22 rfl ?_
  refine n_iconst C 2 dX12_appendLetter_23 ?_
  refine g_callV C (As := [.int (nI (2))]) (k_fails _ hS) vo_X12_136 dX12_appendLetter_24 rfl rfl (by decide) rfl (rm_ok (M' := MX12_appendLetter) hR (by decide)) (Nat.le_of_ble_eq_true rfl) (fun v9 S9 h9 => ?_)
  obtain ⟨rfl, h9⟩ := h9
  refine g_S (wI S 75 (va_up (mI S 75) 0 (nI 2))) h9 ?_
  refine g_n0 [.int (nI (0))] rfl rfl rfl ?_
  exact g_iret C E dX12_appendLetter_27 (by rw [hR]; decide) (by rw [hR]; decide) ⟨rfl, rfl⟩

set_option maxRecDepth 100000 in
theorem m_clearWord (l : Launch) {S : pv_M} {A : Ab} (hS : GS S) (hM : MSt S A) : mt l MX12_clearWord 106 [.ref 75] S (fun v S' => v = some (.int (nI (wM A))) ∧ mI S' 75 0 = nI 0 ∧ MSt S' (setW A (0, wL A)) ∧ FN mC S S') := by
  refine mt_of (by decide) (Nat.le_of_ble_eq_true rfl) ?_
  intro x hl hR hmL C E
  show GG x 106 0 0 [.ref 75, unk] [] S 0
  refine g_aload_n C dX12_clearWord_0 rfl ?_
  refine g_getI C fo_X12_146 dX12_clearWord_1 rfl (by decide) (fun _ => rfl) hM.2.1.1 ?_
  refine g_istore_n C (by rw [hmL]; decide) dX12_clearWord_4 [.ref 75, .int (nI (wM A))] rfl ?_
  refine g_aload_n C dX12_clearWord_5 rfl ?_
  refine n_iconst C 0 dX12_clearWord_6 ?_
  refine g_putI C fo_X12_146 dX12_clearWord_7 rfl (by decide) rfl ?_
  refine g_aload_n C dX12_clearWord_10 rfl ?_
  refine g_iload_n C dX12_clearWord_11 rfl ?_
  refine g_callV C (As := [.int (nI (wM A))]) (k_done _ (hS.fn (FN.wI (P := fun r => r = 75 ∨ r = 79) (by decide)))) vo_X12_132 dX12_clearWord_12 rfl rfl (by decide) rfl (rm_ok (M' := MX12_clearWord) hR (by decide)) (Nat.le_of_ble_eq_true rfl) (fun v9 S9 h9 => ?_)
  obtain ⟨rfl, h9⟩ := h9
  refine g_S (wI (wI S 75 (va_up (mI S 75) 4 (nI 0))) 75 (va_up (mI (wI S 75 (va_up (mI S 75) 4 (nI 0))) 75) 0 (nI 0))) h9 ?_
  refine g_n0 [.int (nI (wM A))] rfl rfl rfl ?_
  exact g_iret C E dX12_clearWord_15 (by rw [hR]; decide) (by rw [hR]; decide) ⟨rfl, rfl, hM.setW ⟨rfl, fun i hi => hM.2.1.2 i hi⟩ ((FN.wI (by decide)).tr (FN.wI (by decide))) rfl rfl, (FN.wI (by decide)).tr (FN.wI (by decide))⟩

set_option maxRecDepth 100000 in
theorem m_wordLetter (l : Launch) {S : pv_M} {A : Ab} (hS : GS S) (hM : MSt S A) {q : Nat} (h1 : q < wM A) (h2 : wM A ≤ 12) : mt l MX12_wordLetter 106 [.ref 75, .int (nI (q))] S (fun v S' => v = some (.int (nI (wL A q))) ∧ S' = th S 0) := by
  refine mt_of (by decide) (Nat.le_of_ble_eq_true rfl) ?_
  intro x hl hR hmL C E
  show GG x 106 0 0 [.ref 75, .int (nI (q))] [] S 0
  refine g_iload_n C dX12_wordLetter_0 rfl ?_
  refine n_iconst C 0 dX12_wordLetter_1 ?_
  refine g_aload_n C dX12_wordLetter_2 rfl ?_
  refine g_getI C fo_X12_146 dX12_wordLetter_3 rfl (by decide) (fun _ => rfl) hM.2.1.1 ?_
  refine n_iconst C 1 dX12_wordLetter_6 ?_
  refine g_isub C dX12_wordLetter_7 ?_
  refine g_callS C (k_in _ (in_lo (by omega)) (in_hi' h1 (by omega))) so_X12_102 dX12_wordLetter_8 rfl rfl (rm_ok (M' := MX12_wordLetter) hR (by decide)) (Nat.le_of_ble_eq_true rfl) (fun v9 S9 h9 => ?_)
  obtain ⟨rfl, h9⟩ := h9
  refine g_S S h9 ?_
  refine g_n0 [.int (bI (true))] rfl rfl rfl ?_
  refine b_if_eq C 27 dX12_wordLetter_11 (fun h11 => absurd h11 (by decide)) (fun h11 => ?_)
  refine g_aload_n C dX12_wordLetter_14 rfl ?_
  refine g_aload_n C dX12_wordLetter_15 rfl ?_
  refine g_getR C fo_X12_20 dX12_wordLetter_16 rfl (by decide) (fun _ => rfl) (gs_75_5 hS) ?_
  refine g_iload_n C dX12_wordLetter_19 rfl ?_
  refine n_iald C dX12_wordLetter_20 rfl (by decide) (hM.2.1.2 q (by omega)) ?_ (by omega)
  refine g_callV C (As := [.int (nI (wL A q))]) (k_done _ hS) vo_X12_132 dX12_wordLetter_21 rfl rfl (by decide) rfl (rm_ok (M' := MX12_wordLetter) hR (by decide)) (Nat.le_of_ble_eq_true rfl) (fun v9 S9 h9 => ?_)
  obtain ⟨rfl, h9⟩ := h9
  refine g_S (wI S 75 (va_up (mI S 75) 0 (nI 0))) h9 ?_
  refine g_n0 [.int (nI (wL A q))] rfl rfl rfl ?_
  refine g_goto C 32 dX12_wordLetter_24 (by decide) ?_
  exact g_iret C E dX12_wordLetter_32 (by rw [hR]; decide) (by rw [hR]; decide) ⟨rfl, rfl⟩

set_option maxRecDepth 100000 in
theorem m_wordLetter_b (l : Launch) {S : pv_M} {A : Ab} (hS : GS S) (hM : MSt S A) {p : Int32} (h : badI p (wM A)) (h2 : wM A ≤ 12) : mt l MX12_wordLetter 106 [.ref 75, .int (p)] S (fun v S' => v = some (.int (nI 0)) ∧ S' = th S 1) := by
  refine mt_of (by decide) (Nat.le_of_ble_eq_true rfl) ?_
  intro x hl hR hmL C E
  show GG x 106 0 0 [.ref 75, .int (p)] [] S 0
  refine g_iload_n C dX12_wordLetter_0 rfl ?_
  refine n_iconst C 0 dX12_wordLetter_1 ?_
  refine g_aload_n C dX12_wordLetter_2 rfl ?_
  refine g_getI C fo_X12_146 dX12_wordLetter_3 rfl (by decide) (fun _ => rfl) hM.2.1.1 ?_
  refine n_iconst C 1 dX12_wordLetter_6 ?_
  refine g_isub C dX12_wordLetter_7 ?_
  refine g_callS C (k_inF _ (in_bad h (by omega))) so_X12_102 dX12_wordLetter_8 rfl rfl (rm_ok (M' := MX12_wordLetter) hR (by decide)) (Nat.le_of_ble_eq_true rfl) (fun v9 S9 h9 => ?_)
  obtain ⟨rfl, h9⟩ := h9
  refine g_S S h9 ?_
  refine g_n0 [.int (bI (false))] rfl rfl rfl ?_
  refine b_if_eq C 27 dX12_wordLetter_11 (fun h11 => ?_) (fun h11 => absurd h11 (by decide))
  refine g_aload_n C dX12_wordLetter_27 rfl ?_
  refine n_iconst C 1 dX12_wordLetter_28 ?_
  refine g_callV C (As := [.int (nI (1))]) (k_fails _ hS) vo_X12_136 dX12_wordLetter_29 rfl rfl (by decide) rfl (rm_ok (M' := MX12_wordLetter) hR (by decide)) (Nat.le_of_ble_eq_true rfl) (fun v9 S9 h9 => ?_)
  obtain ⟨rfl, h9⟩ := h9
  refine g_S (wI S 75 (va_up (mI S 75) 0 (nI 1))) h9 ?_
  refine g_n0 [.int (nI (0))] rfl rfl rfl ?_
  exact g_iret C E dX12_wordLetter_32 (by rw [hR]; decide) (by rw [hR]; decide) ⟨rfl, rfl⟩

set_option maxRecDepth 100000 in
theorem lp_stateBy {x : Cx} (hR : xR x = MX12_stateBy.rm) (hmL : (xc x).maxLocals = MX12_stateBy.nL) (C : BX x cX12_stateBy RX12) {S0 : pv_M} {A : Ab} {j s : Nat} (hS : GS S0) (hM : MSt S0 A) (hj : j < 3) (hst : ∀ k, k ≤ wM A → stA (rT A j) (wL A) s k < 6) (hL : ∀ i, wL A i < 3) (h12 : wM A ≤ 12) (kk : ∀ S : pv_M, S = S0 → GG x 106 0 0 [.ref 75, .int (nI (j)), .int (nI (s)), .int (nI (stA (rT A j) (wL A) s (wM A))), .int (nI (wM A))] [] (S) 38) : ∀ z i (S : pv_M), i + z = wM A → S = S0 → GG x 106 0 0 [.ref 75, .int (nI (j)), .int (nI (s)), .int (nI (stA (rT A j) (wL A) s (i))), .int (nI (i))] [] (S) 5 := by
  intro z
  induction z with
  | zero =>
    intro i S hz hE
    obtain rfl : wM A = i := by omega
    subst hE
    have hwm : wM A = A.1.2.1 := rfl
    refine g_iload C dX12_stateBy_5 rfl ?_
    refine g_aload_n C dX12_stateBy_7 rfl ?_
    refine g_getI C fo_X12_146 dX12_stateBy_8 rfl (by decide) (fun _ => rfl) hM.2.1.1 ?_
    refine n_ic_ge C 38 dX12_stateBy_11 (fun h11 => ?_) (fun h11 => absurd h11 (by omega))
    exact kk _ rfl
  | succ z ih =>
    intro i S hz hE
    have hsi := hst i (by omega)
    have hli := hL i
    subst hE
    have hwm : wM A = A.1.2.1 := rfl
    refine g_iload C dX12_stateBy_5 rfl ?_
    refine g_aload_n C dX12_stateBy_7 rfl ?_
    refine g_getI C fo_X12_146 dX12_stateBy_8 rfl (by decide) (fun _ => rfl) hM.2.1.1 ?_
    refine n_ic_ge C 38 dX12_stateBy_11 (fun h11 => absurd h11 (by omega)) (fun h11 => ?_)
    refine g_aload_n C dX12_stateBy_14 rfl ?_
    refine g_getR C fo_X12_13 dX12_stateBy_15 rfl (by decide) (fun _ => rfl) (gs_75_2 hS) ?_
    refine g_iload_n C dX12_stateBy_18 rfl ?_
    refine g_iload_n C dX12_stateBy_19 rfl ?_
    refine g_aload_n C dX12_stateBy_20 rfl ?_
    refine g_getR C fo_X12_20 dX12_stateBy_21 rfl (by decide) (fun _ => rfl) (gs_75_5 hS) ?_
    refine g_iload C dX12_stateBy_24 rfl ?_
    refine n_iald C dX12_stateBy_26 rfl (by decide) (hM.2.1.2 i (by omega)) ?_ (by omega)
    refine g_callS C (k_place _) so_X12_110 dX12_stateBy_27 rfl rfl (rm_ok (M' := MX12_stateBy) hR (by decide)) (Nat.le_of_ble_eq_true rfl) (fun v9 S9 h9 => ?_)
    obtain ⟨rfl, h9⟩ := h9
    refine g_S S h9 ?_
    refine g_n0 [.int (nI (18 * j + 3 * (stA (rT A j) (wL A) s i) + (wL A i))), .ref 77] rfl rfl rfl ?_
    refine n_iald C dX12_stateBy_30 rfl (by decide) (hM.1.t hj (i := stA (rT A j) (wL A) s i * 3 + wL A i) (by omega) (by omega)) ?_ (by omega)
    refine g_istore_n C (by rw [hmL]; decide) dX12_stateBy_31 [.ref 75, .int (nI (j)), .int (nI (s)), .int (nI (rT A j (stA (rT A j) (wL A) s i * 3 + wL A i))), .int (nI (i))] rfl ?_
    refine n_iinc C (by rw [hmL]; decide) dX12_stateBy_32 rfl (n_i1 _) [.ref 75, .int (nI (j)), .int (nI (s)), .int (nI (rT A j (stA (rT A j) (wL A) s i * 3 + wL A i))), .int (nI (i + 1))] ?_
    refine g_goto C 5 dX12_stateBy_35 (by decide) ?_
    refine g_frg [.ref 75, .int (nI (j)), .int (nI (s)), .int (nI (stA (rT A j) (wL A) s (i + 1))), .int (nI (i + 1))] ⟨Or.inr rfl, Or.inr rfl, Or.inr rfl, Or.inr rfl, Or.inr rfl, trivial⟩ ?_
    exact ih (i + 1) _ (by omega) rfl

set_option maxRecDepth 100000 in
theorem k_stateBy (l : Launch) {S : pv_M} {A : Ab} (hS : GS S) (hM : MSt S A) {j s : Nat} (hj : j < 3) (hst : ∀ k, k ≤ wM A → stA (rT A j) (wL A) s k < 6) (hL : ∀ i, wL A i < 3) (h12 : wM A ≤ 12) : mt l MX12_stateBy 106 [.ref 75, .int (nI (j)), .int (nI (s))] S (fun v S' => v = some (.int (nI (stA (rT A j) (wL A) s (wM A)))) ∧ S' = S) := by
  refine mt_of (by decide) (Nat.le_of_ble_eq_true rfl) ?_
  intro x hl hR hmL C E
  show GG x 106 0 0 [.ref 75, .int (nI (j)), .int (nI (s)), unk, unk] [] S 0
  refine g_iload_n C dX12_stateBy_0 rfl ?_
  refine g_istore_n C (by rw [hmL]; decide) dX12_stateBy_1 [.ref 75, .int (nI (j)), .int (nI (s)), .int (nI (s)), unk] rfl ?_
  refine n_iconst C 0 dX12_stateBy_2 ?_
  refine g_istore C (by rw [hmL]; decide) dX12_stateBy_3 [.ref 75, .int (nI (j)), .int (nI (s)), .int (nI (s)), .int (nI (0))] rfl ?_
  refine lp_stateBy hR hmL C (s := s) hS hM hj hst hL h12 (fun S2 e => ?_) (wM A) 0 S (Nat.zero_add _) rfl
  subst e
  refine g_iload_n C dX12_stateBy_38 rfl ?_
  exact g_iret C E dX12_stateBy_39 (by rw [hR]; decide) (by rw [hR]; decide) ⟨rfl, rfl⟩

set_option maxRecDepth 100000 in
theorem m_accepts (l : Launch) {S : pv_M} {A : Ab} (hS : GS S) (hM : MSt S A) {j : Nat} (hj : j < 3) (hst : ∀ k, k ≤ wM A → stA (rT A j) (wL A) 0 k < 6) (hL : ∀ i, wL A i < 3) (h12 : wM A ≤ 12) : mt l MX12_accepts 106 [.ref 75, .int (nI (j))] S (fun v S' => v = some (.int (bI ((rF A j).testBit (stA (rT A j) (wL A) 0 (wM A))))) ∧ S' = th S 0) := by
  refine mt_of (by decide) (Nat.le_of_ble_eq_true rfl) ?_
  intro x hl hR hmL C E
  show GG x 106 0 0 [.ref 75, .int (nI (j))] [] S 0
  have hq := hst _ (Nat.le_refl _)
  refine g_iload_n C dX12_accepts_0 rfl ?_
  refine g_callS C (k_isRegister _ hj) so_X12_106 dX12_accepts_1 rfl rfl (rm_ok (M' := MX12_accepts) hR (by decide)) (Nat.le_of_ble_eq_true rfl) (fun v9 S9 h9 => ?_)
  obtain ⟨rfl, h9⟩ := h9
  refine g_S S h9 ?_
  refine g_n0 [.int (bI (true))] rfl rfl rfl ?_
  refine b_if_eq C 30 dX12_accepts_4 (fun h4 => absurd h4 (by decide)) (fun h4 => ?_)
  refine g_aload_n C dX12_accepts_7 rfl ?_
  refine g_aload_n C dX12_accepts_8 rfl ?_
  refine g_getR C fo_X12_16 dX12_accepts_9 rfl (by decide) (fun _ => rfl) (gs_75_3 hS) ?_
  refine n_bipush C 6 dX12_accepts_12 ?_
  refine g_iload_n C dX12_accepts_14 rfl ?_
  refine n_imul C dX12_accepts_15 ?_
  refine g_aload_n C dX12_accepts_16 rfl ?_
  refine g_iload_n C dX12_accepts_17 rfl ?_
  refine n_iconst C 0 dX12_accepts_18 ?_
  refine g_callV C (As := [.int (nI (j)), .int (nI (0))]) (k_stateBy _ hS hM hj hst hL h12) vo_X12_149 dX12_accepts_19 rfl rfl (by decide) rfl (rm_ok (M' := MX12_accepts) hR (by decide)) (Nat.le_of_ble_eq_true rfl) (fun v9 S9 h9 => ?_)
  obtain ⟨rfl, h9⟩ := h9
  refine g_S S h9 ?_
  refine g_n0 [.int (nI (stA (rT A j) (wL A) 0 (wM A))), .int (nI ((6) * (j))), .ref 78, .ref 75] rfl rfl rfl ?_
  refine n_iadd C dX12_accepts_22 ?_
  refine n_zald C dX12_accepts_23 rfl (by decide) (hM.1.f hj (i := stA (rT A j) (wL A) 0 (wM A)) (hst _ (Nat.le_refl _)) rfl) ?_ (by omega)
  refine g_callV C (As := [.int (bI ((rF A j).testBit (stA (rT A j) (wL A) 0 (wM A))))]) (k_so _ hS) vo_X12_128 dX12_accepts_24 rfl rfl (by decide) rfl (rm_ok (M' := MX12_accepts) hR (by decide)) (Nat.le_of_ble_eq_true rfl) (fun v9 S9 h9 => ?_)
  obtain ⟨rfl, h9⟩ := h9
  refine g_S (wI S 75 (va_up (mI S 75) 0 (nI 0))) h9 ?_
  refine g_n0 [.int (bI ((rF A j).testBit (stA (rT A j) (wL A) 0 (wM A))))] rfl rfl rfl ?_
  refine g_goto C 35 dX12_accepts_27 (by decide) ?_
  exact g_zret C E dX12_accepts_35 (bI_01 _) (by rw [hR]; decide) (by rw [hR]; decide) ⟨rfl, rfl⟩

set_option maxRecDepth 100000 in
theorem m_accepts_r (l : Launch) {S : pv_M} {p : Int32} (hS : GS S) (h : badI p 3) : mt l MX12_accepts 106 [.ref 75, .int (p)] S (fun v S' => v = some (.int (bI false)) ∧ S' = th S 1) := by
  refine mt_of (by decide) (Nat.le_of_ble_eq_true rfl) ?_
  intro x hl hR hmL C E
  show GG x 106 0 0 [.ref 75, .int (p)] [] S 0
  refine g_iload_n C dX12_accepts_0 rfl ?_
  refine g_callS C (k_isRegisterF _ h) so_X12_106 dX12_accepts_1 rfl rfl (rm_ok (M' := MX12_accepts) hR (by decide)) (Nat.le_of_ble_eq_true rfl) (fun v9 S9 h9 => ?_)
  obtain ⟨rfl, h9⟩ := h9
  refine g_S S h9 ?_
  refine g_n0 [.int (bI (false))] rfl rfl rfl ?_
  refine b_if_eq C 30 dX12_accepts_4 (fun h4 => ?_) (fun h4 => absurd h4 (by decide))
  refine g_aload_n C dX12_accepts_30 rfl ?_
  refine n_iconst C 1 dX12_accepts_31 ?_
  refine g_callV C (As := [.int (nI (1))]) (k_not _ hS) vo_X12_125 dX12_accepts_32 rfl rfl (by decide) rfl (rm_ok (M' := MX12_accepts) hR (by decide)) (Nat.le_of_ble_eq_true rfl) (fun v9 S9 h9 => ?_)
  obtain ⟨rfl, h9⟩ := h9
  refine g_S (wI S 75 (va_up (mI S 75) 0 (nI 1))) h9 ?_
  refine g_n0 [.int (bI (false))] rfl rfl rfl ?_
  exact g_zret C E dX12_accepts_35 (bI_01 _) (by rw [hR]; decide) (by rw [hR]; decide) ⟨rfl, rfl⟩

set_option maxRecDepth 100000 in
theorem ls_t {x : Cx} (hR : xR x = MX12_save.rm) (hmL : (xc x).maxLocals = MX12_save.nL) (C : BX x cX12_save RX12) {S0 : pv_M} (kk : ∀ S : pv_M, GS S → FN (fun r => r = 85) S0 S → mI S 85 = reg 0 54 (mI S0 77) (mI S0 85) → GG x 106 0 0 [.ref 75, .int (nI (54))] [] (S) 36) : ∀ z i (S : pv_M), i + z = 54 → GS S → FN (fun r => r = 85) S0 S → mI S 85 = reg 0 i (mI S0 77) (mI S0 85) → GG x 106 0 0 [.ref 75, .int (nI (i))] [] (S) 12 := by
  intro z
  induction z with
  | zero =>
    intro i S hz hS hf hd
    obtain rfl : 54 = i := by omega
    refine g_iload_n C dX12_save_12 rfl ?_
    refine n_bipush C 54 dX12_save_13 ?_
    refine n_ic_ge C 36 dX12_save_15 (fun h15 => ?_) (fun h15 => absurd h15 (by omega))
    exact kk S hS hf hd
  | succ z ih =>
    intro i S hz hS hf hd
    refine g_iload_n C dX12_save_12 rfl ?_
    refine n_bipush C 54 dX12_save_13 ?_
    refine n_ic_ge C 36 dX12_save_15 (fun h15 => absurd h15 (by omega)) (fun h15 => ?_)
    refine g_aload_n C dX12_save_18 rfl ?_
    refine g_getR C fo_X12_40 dX12_save_19 rfl (by decide) (fun _ => rfl) (gs_75_12 hS) ?_
    refine g_iload_n C dX12_save_22 rfl ?_
    refine g_aload_n C dX12_save_23 rfl ?_
    refine g_getR C fo_X12_13 dX12_save_24 rfl (by decide) (fun _ => rfl) (gs_75_2 hS) ?_
    refine g_iload_n C dX12_save_27 rfl ?_
    refine n_iald C dX12_save_28 rfl (by decide) (congrFun (hf.2 77 (by decide)).1 _) ?_ (by omega)
    refine g_iast C dX12_save_29 rfl (by decide) (by omega) rfl ?_
    refine n_iinc C (by rw [hmL]; decide) dX12_save_30 rfl (n_i1 _) [.ref 75, .int (nI (i + 1))] ?_
    refine g_goto C 12 dX12_save_33 (by decide) ?_
    exact ih (i + 1) _ (by omega) (hS.fn (FN.wI (P := fun r => r = 85) rfl)) (hf.tr (FN.wI rfl)) (reg_I hd (by omega) rfl)

set_option maxRecDepth 100000 in
theorem ls_f {x : Cx} (hR : xR x = MX12_save.rm) (hmL : (xc x).maxLocals = MX12_save.nL) (C : BX x cX12_save RX12) {S0 : pv_M} (hb : ∀ k, k < 18 → vp_nar .boolean (mI S0 78 k) = mI S0 78 k) (kk : ∀ S : pv_M, GS S → FN (fun r => r = 86) S0 S → mI S 86 = reg 0 18 (mI S0 78) (mI S0 86) → GG x 106 0 0 [.ref 75, .int (nI (18))] [] (S) 62) : ∀ z i (S : pv_M), i + z = 18 → GS S → FN (fun r => r = 86) S0 S → mI S 86 = reg 0 i (mI S0 78) (mI S0 86) → GG x 106 0 0 [.ref 75, .int (nI (i))] [] (S) 38 := by
  intro z
  induction z with
  | zero =>
    intro i S hz hS hf hd
    obtain rfl : 18 = i := by omega
    refine g_iload_n C dX12_save_38 rfl ?_
    refine n_bipush C 18 dX12_save_39 ?_
    refine n_ic_ge C 62 dX12_save_41 (fun h41 => ?_) (fun h41 => absurd h41 (by omega))
    exact kk S hS hf hd
  | succ z ih =>
    intro i S hz hS hf hd
    refine g_iload_n C dX12_save_38 rfl ?_
    refine n_bipush C 18 dX12_save_39 ?_
    refine n_ic_ge C 62 dX12_save_41 (fun h41 => absurd h41 (by omega)) (fun h41 => ?_)
    refine g_aload_n C dX12_save_44 rfl ?_
    refine g_getR C fo_X12_43 dX12_save_45 rfl (by decide) (fun _ => rfl) (gs_75_13 hS) ?_
    refine g_iload_n C dX12_save_48 rfl ?_
    refine g_aload_n C dX12_save_49 rfl ?_
    refine g_getR C fo_X12_16 dX12_save_50 rfl (by decide) (fun _ => rfl) (gs_75_3 hS) ?_
    refine g_iload_n C dX12_save_53 rfl ?_
    refine n_zald C dX12_save_54 rfl (by decide) (congrFun (hf.2 78 (by decide)).1 _) ?_ (by omega)
    refine g_zast C dX12_save_55 rfl (by decide) (by omega) rfl (hb _ (by omega)) ?_
    refine n_iinc C (by rw [hmL]; decide) dX12_save_56 rfl (n_i1 _) [.ref 75, .int (nI (i + 1))] ?_
    refine g_goto C 38 dX12_save_59 (by decide) ?_
    exact ih (i + 1) _ (by omega) (hS.fn (FN.wI (P := fun r => r = 86) rfl)) (hf.tr (FN.wI rfl)) (reg_I hd (by omega) rfl)

set_option maxRecDepth 100000 in
theorem ls_n {x : Cx} (hR : xR x = MX12_save.rm) (hmL : (xc x).maxLocals = MX12_save.nL) (C : BX x cX12_save RX12) {S0 : pv_M} (kk : ∀ S : pv_M, GS S → FN (fun r => r = 84) S0 S → mI S 84 = reg 0 3 (mI S0 76) (mI S0 84) → GG x 106 0 0 [.ref 75, .int (nI (3))] [] (S) 87) : ∀ z i (S : pv_M), i + z = 3 → GS S → FN (fun r => r = 84) S0 S → mI S 84 = reg 0 i (mI S0 76) (mI S0 84) → GG x 106 0 0 [.ref 75, .int (nI (i))] [] (S) 64 := by
  intro z
  induction z with
  | zero =>
    intro i S hz hS hf hd
    obtain rfl : 3 = i := by omega
    refine g_iload_n C dX12_save_64 rfl ?_
    refine n_iconst C 3 dX12_save_65 ?_
    refine n_ic_ge C 87 dX12_save_66 (fun h66 => ?_) (fun h66 => absurd h66 (by omega))
    exact kk S hS hf hd
  | succ z ih =>
    intro i S hz hS hf hd
    refine g_iload_n C dX12_save_64 rfl ?_
    refine n_iconst C 3 dX12_save_65 ?_
    refine n_ic_ge C 87 dX12_save_66 (fun h66 => absurd h66 (by omega)) (fun h66 => ?_)
    refine g_aload_n C dX12_save_69 rfl ?_
    refine g_getR C fo_X12_37 dX12_save_70 rfl (by decide) (fun _ => rfl) (gs_75_11 hS) ?_
    refine g_iload_n C dX12_save_73 rfl ?_
    refine g_aload_n C dX12_save_74 rfl ?_
    refine g_getR C fo_X12_7 dX12_save_75 rfl (by decide) (fun _ => rfl) (gs_75_1 hS) ?_
    refine g_iload_n C dX12_save_78 rfl ?_
    refine n_iald C dX12_save_79 rfl (by decide) (congrFun (hf.2 76 (by decide)).1 _) ?_ (by omega)
    refine g_iast C dX12_save_80 rfl (by decide) (by omega) rfl ?_
    refine n_iinc C (by rw [hmL]; decide) dX12_save_81 rfl (n_i1 _) [.ref 75, .int (nI (i + 1))] ?_
    refine g_goto C 64 dX12_save_84 (by decide) ?_
    exact ih (i + 1) _ (by omega) (hS.fn (FN.wI (P := fun r => r = 84) rfl)) (hf.tr (FN.wI rfl)) (reg_I hd (by omega) rfl)

set_option maxRecDepth 100000 in
theorem ls_w {x : Cx} (hR : xR x = MX12_save.rm) (hmL : (xc x).maxLocals = MX12_save.nL) (C : BX x cX12_save RX12) {S0 : pv_M} (kk : ∀ S : pv_M, GS S → FN (fun r => r = 87) S0 S → mI S 87 = reg 0 12 (mI S0 79) (mI S0 87) → GG x 106 0 0 [.ref 75, .int (nI (12))] [] (S) 121) : ∀ z i (S : pv_M), i + z = 12 → GS S → FN (fun r => r = 87) S0 S → mI S 87 = reg 0 i (mI S0 79) (mI S0 87) → GG x 106 0 0 [.ref 75, .int (nI (i))] [] (S) 97 := by
  intro z
  induction z with
  | zero =>
    intro i S hz hS hf hd
    obtain rfl : 12 = i := by omega
    refine g_iload_n C dX12_save_97 rfl ?_
    refine n_bipush C 12 dX12_save_98 ?_
    refine n_ic_ge C 121 dX12_save_100 (fun h100 => ?_) (fun h100 => absurd h100 (by omega))
    exact kk S hS hf hd
  | succ z ih =>
    intro i S hz hS hf hd
    refine g_iload_n C dX12_save_97 rfl ?_
    refine n_bipush C 12 dX12_save_98 ?_
    refine n_ic_ge C 121 dX12_save_100 (fun h100 => absurd h100 (by omega)) (fun h100 => ?_)
    refine g_aload_n C dX12_save_103 rfl ?_
    refine g_getR C fo_X12_46 dX12_save_104 rfl (by decide) (fun _ => rfl) (gs_75_15 hS) ?_
    refine g_iload_n C dX12_save_107 rfl ?_
    refine g_aload_n C dX12_save_108 rfl ?_
    refine g_getR C fo_X12_20 dX12_save_109 rfl (by decide) (fun _ => rfl) (gs_75_5 hS) ?_
    refine g_iload_n C dX12_save_112 rfl ?_
    refine n_iald C dX12_save_113 rfl (by decide) (congrFun (hf.2 79 (by decide)).1 _) ?_ (by omega)
    refine g_iast C dX12_save_114 rfl (by decide) (by omega) rfl ?_
    refine n_iinc C (by rw [hmL]; decide) dX12_save_115 rfl (n_i1 _) [.ref 75, .int (nI (i + 1))] ?_
    refine g_goto C 97 dX12_save_118 (by decide) ?_
    exact ih (i + 1) _ (by omega) (hS.fn (FN.wI (P := fun r => r = 87) rfl)) (hf.tr (FN.wI rfl)) (reg_I hd (by omega) rfl)

set_option maxRecDepth 100000 in
theorem lr_t {x : Cx} (hR : xR x = MX12_restore.rm) (hmL : (xc x).maxLocals = MX12_restore.nL) (C : BX x cX12_restore RX12) {S0 : pv_M} (kk : ∀ S : pv_M, GS S → FN (fun r => r = 77) S0 S → mI S 77 = reg 0 54 (mI S0 85) (mI S0 77) → GG x 106 0 0 [.ref 75, .int (nI (54))] [] (S) 50) : ∀ z i (S : pv_M), i + z = 54 → GS S → FN (fun r => r = 77) S0 S → mI S 77 = reg 0 i (mI S0 85) (mI S0 77) → GG x 106 0 0 [.ref 75, .int (nI (i))] [] (S) 26 := by
  intro z
  induction z with
  | zero =>
    intro i S hz hS hf hd
    obtain rfl : 54 = i := by omega
    refine g_iload_n C dX12_restore_26 rfl ?_
    refine n_bipush C 54 dX12_restore_27 ?_
    refine n_ic_ge C 50 dX12_restore_29 (fun h29 => ?_) (fun h29 => absurd h29 (by omega))
    exact kk S hS hf hd
  | succ z ih =>
    intro i S hz hS hf hd
    refine g_iload_n C dX12_restore_26 rfl ?_
    refine n_bipush C 54 dX12_restore_27 ?_
    refine n_ic_ge C 50 dX12_restore_29 (fun h29 => absurd h29 (by omega)) (fun h29 => ?_)
    refine g_aload_n C dX12_restore_32 rfl ?_
    refine g_getR C fo_X12_13 dX12_restore_33 rfl (by decide) (fun _ => rfl) (gs_75_2 hS) ?_
    refine g_iload_n C dX12_restore_36 rfl ?_
    refine g_aload_n C dX12_restore_37 rfl ?_
    refine g_getR C fo_X12_40 dX12_restore_38 rfl (by decide) (fun _ => rfl) (gs_75_12 hS) ?_
    refine g_iload_n C dX12_restore_41 rfl ?_
    refine n_iald C dX12_restore_42 rfl (by decide) (congrFun (hf.2 85 (by decide)).1 _) ?_ (by omega)
    refine g_iast C dX12_restore_43 rfl (by decide) (by omega) rfl ?_
    refine n_iinc C (by rw [hmL]; decide) dX12_restore_44 rfl (n_i1 _) [.ref 75, .int (nI (i + 1))] ?_
    refine g_goto C 26 dX12_restore_47 (by decide) ?_
    exact ih (i + 1) _ (by omega) (hS.fn (FN.wI (P := fun r => r = 77) rfl)) (hf.tr (FN.wI rfl)) (reg_I hd (by omega) rfl)

set_option maxRecDepth 100000 in
theorem lr_f {x : Cx} (hR : xR x = MX12_restore.rm) (hmL : (xc x).maxLocals = MX12_restore.nL) (C : BX x cX12_restore RX12) {S0 : pv_M} (hb : ∀ k, k < 18 → vp_nar .boolean (mI S0 86 k) = mI S0 86 k) (kk : ∀ S : pv_M, GS S → FN (fun r => r = 78) S0 S → mI S 78 = reg 0 18 (mI S0 86) (mI S0 78) → GG x 106 0 0 [.ref 75, .int (nI (18))] [] (S) 76) : ∀ z i (S : pv_M), i + z = 18 → GS S → FN (fun r => r = 78) S0 S → mI S 78 = reg 0 i (mI S0 86) (mI S0 78) → GG x 106 0 0 [.ref 75, .int (nI (i))] [] (S) 52 := by
  intro z
  induction z with
  | zero =>
    intro i S hz hS hf hd
    obtain rfl : 18 = i := by omega
    refine g_iload_n C dX12_restore_52 rfl ?_
    refine n_bipush C 18 dX12_restore_53 ?_
    refine n_ic_ge C 76 dX12_restore_55 (fun h55 => ?_) (fun h55 => absurd h55 (by omega))
    exact kk S hS hf hd
  | succ z ih =>
    intro i S hz hS hf hd
    refine g_iload_n C dX12_restore_52 rfl ?_
    refine n_bipush C 18 dX12_restore_53 ?_
    refine n_ic_ge C 76 dX12_restore_55 (fun h55 => absurd h55 (by omega)) (fun h55 => ?_)
    refine g_aload_n C dX12_restore_58 rfl ?_
    refine g_getR C fo_X12_16 dX12_restore_59 rfl (by decide) (fun _ => rfl) (gs_75_3 hS) ?_
    refine g_iload_n C dX12_restore_62 rfl ?_
    refine g_aload_n C dX12_restore_63 rfl ?_
    refine g_getR C fo_X12_43 dX12_restore_64 rfl (by decide) (fun _ => rfl) (gs_75_13 hS) ?_
    refine g_iload_n C dX12_restore_67 rfl ?_
    refine n_zald C dX12_restore_68 rfl (by decide) (congrFun (hf.2 86 (by decide)).1 _) ?_ (by omega)
    refine g_zast C dX12_restore_69 rfl (by decide) (by omega) rfl (hb _ (by omega)) ?_
    refine n_iinc C (by rw [hmL]; decide) dX12_restore_70 rfl (n_i1 _) [.ref 75, .int (nI (i + 1))] ?_
    refine g_goto C 52 dX12_restore_73 (by decide) ?_
    exact ih (i + 1) _ (by omega) (hS.fn (FN.wI (P := fun r => r = 78) rfl)) (hf.tr (FN.wI rfl)) (reg_I hd (by omega) rfl)

set_option maxRecDepth 100000 in
theorem lr_n {x : Cx} (hR : xR x = MX12_restore.rm) (hmL : (xc x).maxLocals = MX12_restore.nL) (C : BX x cX12_restore RX12) {S0 : pv_M} (kk : ∀ S : pv_M, GS S → FN (fun r => r = 76) S0 S → mI S 76 = reg 0 3 (mI S0 84) (mI S0 76) → GG x 106 0 0 [.ref 75, .int (nI (3))] [] (S) 101) : ∀ z i (S : pv_M), i + z = 3 → GS S → FN (fun r => r = 76) S0 S → mI S 76 = reg 0 i (mI S0 84) (mI S0 76) → GG x 106 0 0 [.ref 75, .int (nI (i))] [] (S) 78 := by
  intro z
  induction z with
  | zero =>
    intro i S hz hS hf hd
    obtain rfl : 3 = i := by omega
    refine g_iload_n C dX12_restore_78 rfl ?_
    refine n_iconst C 3 dX12_restore_79 ?_
    refine n_ic_ge C 101 dX12_restore_80 (fun h80 => ?_) (fun h80 => absurd h80 (by omega))
    exact kk S hS hf hd
  | succ z ih =>
    intro i S hz hS hf hd
    refine g_iload_n C dX12_restore_78 rfl ?_
    refine n_iconst C 3 dX12_restore_79 ?_
    refine n_ic_ge C 101 dX12_restore_80 (fun h80 => absurd h80 (by omega)) (fun h80 => ?_)
    refine g_aload_n C dX12_restore_83 rfl ?_
    refine g_getR C fo_X12_7 dX12_restore_84 rfl (by decide) (fun _ => rfl) (gs_75_1 hS) ?_
    refine g_iload_n C dX12_restore_87 rfl ?_
    refine g_aload_n C dX12_restore_88 rfl ?_
    refine g_getR C fo_X12_37 dX12_restore_89 rfl (by decide) (fun _ => rfl) (gs_75_11 hS) ?_
    refine g_iload_n C dX12_restore_92 rfl ?_
    refine n_iald C dX12_restore_93 rfl (by decide) (congrFun (hf.2 84 (by decide)).1 _) ?_ (by omega)
    refine g_iast C dX12_restore_94 rfl (by decide) (by omega) rfl ?_
    refine n_iinc C (by rw [hmL]; decide) dX12_restore_95 rfl (n_i1 _) [.ref 75, .int (nI (i + 1))] ?_
    refine g_goto C 78 dX12_restore_98 (by decide) ?_
    exact ih (i + 1) _ (by omega) (hS.fn (FN.wI (P := fun r => r = 76) rfl)) (hf.tr (FN.wI rfl)) (reg_I hd (by omega) rfl)

set_option maxRecDepth 100000 in
theorem lr_w {x : Cx} (hR : xR x = MX12_restore.rm) (hmL : (xc x).maxLocals = MX12_restore.nL) (C : BX x cX12_restore RX12) {S0 : pv_M} (kk : ∀ S : pv_M, GS S → FN (fun r => r = 79) S0 S → mI S 79 = reg 0 12 (mI S0 87) (mI S0 79) → GG x 106 0 0 [.ref 75, .int (nI (12))] [] (S) 135) : ∀ z i (S : pv_M), i + z = 12 → GS S → FN (fun r => r = 79) S0 S → mI S 79 = reg 0 i (mI S0 87) (mI S0 79) → GG x 106 0 0 [.ref 75, .int (nI (i))] [] (S) 111 := by
  intro z
  induction z with
  | zero =>
    intro i S hz hS hf hd
    obtain rfl : 12 = i := by omega
    refine g_iload_n C dX12_restore_111 rfl ?_
    refine n_bipush C 12 dX12_restore_112 ?_
    refine n_ic_ge C 135 dX12_restore_114 (fun h114 => ?_) (fun h114 => absurd h114 (by omega))
    exact kk S hS hf hd
  | succ z ih =>
    intro i S hz hS hf hd
    refine g_iload_n C dX12_restore_111 rfl ?_
    refine n_bipush C 12 dX12_restore_112 ?_
    refine n_ic_ge C 135 dX12_restore_114 (fun h114 => absurd h114 (by omega)) (fun h114 => ?_)
    refine g_aload_n C dX12_restore_117 rfl ?_
    refine g_getR C fo_X12_20 dX12_restore_118 rfl (by decide) (fun _ => rfl) (gs_75_5 hS) ?_
    refine g_iload_n C dX12_restore_121 rfl ?_
    refine g_aload_n C dX12_restore_122 rfl ?_
    refine g_getR C fo_X12_46 dX12_restore_123 rfl (by decide) (fun _ => rfl) (gs_75_15 hS) ?_
    refine g_iload_n C dX12_restore_126 rfl ?_
    refine n_iald C dX12_restore_127 rfl (by decide) (congrFun (hf.2 87 (by decide)).1 _) ?_ (by omega)
    refine g_iast C dX12_restore_128 rfl (by decide) (by omega) rfl ?_
    refine n_iinc C (by rw [hmL]; decide) dX12_restore_129 rfl (n_i1 _) [.ref 75, .int (nI (i + 1))] ?_
    refine g_goto C 111 dX12_restore_132 (by decide) ?_
    exact ih (i + 1) _ (by omega) (hS.fn (FN.wI (P := fun r => r = 79) rfl)) (hf.tr (FN.wI rfl)) (reg_I hd (by omega) rfl)

theorem RgM.bool {S : pv_M} {cs ct cf : Nat} {R : Nat → Rg} (h : RgM S cs ct cf R) : ∀ k, k < 18 → vp_nar .boolean (mI S cf k) = mI S cf k := fun k hk => by
  have := h.2.2 (k / 6) (by omega) (k % 6) (by omega)
  rw [show 6 * (k / 6) + k % 6 = k by omega] at this
  rw [this]; exact bI_nar _
/-- registers that are copied -/
theorem RgM.cp {S S' : pv_M} {cs ct cf ds dt df : Nat} {R : Nat → Rg} (h : RgM S cs ct cf R) (h1 : ∀ k, k < 3 → mI S' ds k = mI S cs k) (h2 : ∀ k, k < 54 → mI S' dt k = mI S ct k) (h3 : ∀ k, k < 18 → mI S' df k = mI S cf k) : RgM S' ds dt df R := ⟨fun j hj => by rw [h1 j hj]; exact h.1 j hj, fun j hj i hi => by rw [h2 _ (by omega)]; exact h.2.1 j hj i hi, fun j hj i hi => by rw [h3 _ (by omega)]; exact h.2.2 j hj i hi⟩
theorem reg0 {α : Type} {i k : Nat} {f g : Nat → α} (h : k < i) : reg 0 i f g k = f k := reg_in h (Nat.zero_add k).symm

set_option maxRecDepth 100000 in
theorem m_save (l : Launch) {S : pv_M} {A : Ab} (hS : GS S) (hM : MSt S A) : mt l MX12_save 106 [.ref 75] S (fun v S' => v = none ∧ mI S' 75 0 = nI 0 ∧ MSt S' (A.1, (true, A.1), A.2.2) ∧ FN mC S S') := by
  refine mt_of (by decide) (Nat.le_of_ble_eq_true rfl) ?_
  intro x hl hR hmL C E
  show GG x 106 0 0 [.ref 75, unk] [] S 0
  refine g_aload_n C dX12_save_0 rfl ?_
  refine n_iconst C 0 dX12_save_1 ?_
  refine g_putI C fo_X12_98 dX12_save_2 rfl (by decide) rfl ?_
  refine g_aload_n C dX12_save_5 rfl ?_
  refine g_iconst C (bI true) dX12_save_6 (by decide) ?_
  refine g_putZ C fo_X12_286 dX12_save_7 rfl (by decide) rfl (bI_01 _) ?_
  refine n_iconst C 0 dX12_save_10 ?_
  refine g_istore_n C (by rw [hmL]; decide) dX12_save_11 [.ref 75, .int (nI (0))] rfl ?_
  refine ls_t hR hmL C (S0 := wI (th S 0) 75 (va_up (mI (th S 0) 75) 10 (bI true))) (fun S1 k1 f1 d1 => ?_) 54 0 _ rfl ((hS.fn (FN.wI (P := mC) (by decide))).fn (FN.wI (P := mC) (by decide))) FN.rf reg_0.symm
  refine n_iconst C 0 dX12_save_36 ?_
  refine g_istore_n C (by rw [hmL]; decide) dX12_save_37 [.ref 75, .int (nI 0)] rfl ?_
  refine ls_f hR hmL C (S0 := S1) (fun k hk => by rw [(f1.2 78 (by decide)).1]; exact hM.1.bool k hk) (fun S2 k2 f2 d2 => ?_) 18 0 S1 rfl k1 FN.rf reg_0.symm
  refine n_iconst C 0 dX12_save_62 ?_
  refine g_istore_n C (by rw [hmL]; decide) dX12_save_63 [.ref 75, .int (nI 0)] rfl ?_
  refine ls_n hR hmL C (S0 := S2) (fun S3 k3 f3 d3 => ?_) 3 0 S2 rfl k2 FN.rf reg_0.symm
  refine g_aload_n C dX12_save_87 rfl ?_
  refine g_aload_n C dX12_save_88 rfl ?_
  refine g_getI C (a := (mI S3 75 4)) fo_X12_146 dX12_save_89 rfl (by decide) (fun _ => rfl) rfl ?_
  refine g_putI C fo_X12_290 dX12_save_92 rfl (by decide) rfl ?_
  refine n_iconst C 0 dX12_save_95 ?_
  refine g_istore_n C (by rw [hmL]; decide) dX12_save_96 [.ref 75, .int (nI (0))] rfl ?_
  refine ls_w hR hmL C (S0 := wI S3 75 (va_up (mI S3 75) 14 (mI S3 75 4))) (fun S5 k5 f5 d5 => ?_) 12 0 _ rfl (k3.fn (FN.wI (P := mC) (by decide))) FN.rf reg_0.symm
  have a5 : ∀ r, r = 75 ∨ r = 87 ∨ r = 79 ∨ r = 76 ∨ r = 77 ∨ r = 78 ∨ r = 80 ∨ r = 81 ∨ r = 84 ∨ r = 85 ∨ r = 86 → True := fun _ _ => trivial
  have e1 : ∀ r, r ≠ 85 → mI S1 r = mI (wI (th S 0) 75 (va_up (mI (th S 0) 75) 10 (bI true))) r := fun r h => (f1.2 r h).1
  have e2 : ∀ r, r ≠ 86 → mI S2 r = mI S1 r := fun r h => (f2.2 r h).1
  have e3 : ∀ r, r ≠ 84 → mI S3 r = mI S2 r := fun r h => (f3.2 r h).1
  have e5 : ∀ r, r ≠ 87 → r ≠ 75 → mI S5 r = mI S3 r := fun r h h' => (f5.2 r h).1.trans (mI_wI_ne h')
  have e75 : mI S3 75 = mI (wI (th S 0) 75 (va_up (mI (th S 0) 75) 10 (bI true))) 75 := by rw [e3 75 (by decide), e2 75 (by decide), e1 75 (by decide)]
  have c75 : mI S5 75 = va_up (mI S3 75) 14 (mI S3 75 4) := (f5.2 75 (by decide)).1.trans mI_wI
  have all : ∀ r, r = 76 ∨ r = 77 ∨ r = 78 ∨ r = 79 ∨ r = 80 ∨ r = 81 → mI S5 r = mI S r := fun r h => by
    rw [e5 r (by omega) (by omega), e3 r (by omega), e2 r (by omega), e1 r (by omega)]
    rcases h with rfl | rfl | rfl | rfl | rfl | rfl <;> rfl
  have fr : FN mC S S5 := (((((FN.wI (by decide)).tr (FN.wI (by decide))).tr (f1.mono (fun r h => by rw [h]; decide))).tr (f2.mono (fun r h => by rw [h]; decide))).tr (f3.mono (fun r h => by rw [h]; decide))).tr ((FN.wI (by decide)).tr (f5.mono (fun r h => by rw [h]; decide)))
  have x82 : mF S5 82 = mF S 82 := (f5.2 82 (by decide)).2.2.1.trans ((f3.2 82 (by decide)).2.2.1.trans ((f2.2 82 (by decide)).2.2.1.trans (f1.2 82 (by decide)).2.2.1))
  have x83 : mD S5 83 = mD S 83 := (f5.2 83 (by decide)).2.2.2.trans ((f3.2 83 (by decide)).2.2.2.trans ((f2.2 83 (by decide)).2.2.2.trans (f1.2 83 (by decide)).2.2.2))
  refine g_vret C E dX12_save_121 (by rw [hR]; decide) (by rw [hR]; decide) ⟨rfl, by rw [c75, e75]; rfl, ⟨hM.1.keep (all 76 (by omega)) (all 77 (by omega)) (all 78 (by omega)), hM.2.1.keep (by rw [c75, e75]; rfl) (all 79 (by omega)), by rw [c75, e75]; rfl, hM.1.cp (fun k hk => ?_) (fun k hk => ?_) (fun k hk => ?_), ⟨?_, fun i hi => ?_⟩, hM.2.2.2.2.2.keep (all 80 (by omega)) (all 81 (by omega)) x82 x83⟩, fr⟩
  · rw [e5 84 (by decide) (by decide), d3, reg0 hk, e2 76 (by decide), e1 76 (by decide)]; rfl
  · rw [e5 85 (by decide) (by decide), e3 85 (by decide), e2 85 (by decide), d1, reg0 hk]; rfl
  · rw [e5 86 (by decide) (by decide), e3 86 (by decide), d2, reg0 hk, e1 78 (by decide)]; rfl
  · rw [c75, up_same, e75]; exact hM.2.1.1
  · rw [d5, reg0 hi]
    show mI S3 79 i = _
    rw [e3 79 (by decide), e2 79 (by decide), e1 79 (by decide)]
    exact hM.2.1.2 i hi

set_option maxRecDepth 100000 in
theorem m_restore (l : Launch) {S : pv_M} {A : Ab} (hS : GS S) (hM : MSt S A) (hs : A.2.1.1 = true) : mt l MX12_restore 106 [.ref 75] S (fun v S' => v = none ∧ mI S' 75 0 = nI 0 ∧ MSt S' (A.2.1.2, A.2) ∧ FN mC S S') := by
  refine mt_of (by decide) (Nat.le_of_ble_eq_true rfl) ?_
  intro x hl hR hmL C E
  show GG x 106 0 0 [.ref 75, unk] [] S 0
  refine g_aload_n C dX12_restore_0 rfl ?_
  refine g_aload_n C dX12_restore_1 rfl ?_
  refine g_getI C fo_X12_286 dX12_restore_2 rfl (by decide) (fun _ => rfl) (by rw [hM.2.2.1, hs]) ?_
  refine b_if_eq C 12 dX12_restore_5 (fun h5 => absurd h5 (by decide)) (fun h5 => ?_)
  refine n_iconst C 0 dX12_restore_8 ?_
  refine g_goto C 13 dX12_restore_9 (by decide) ?_
  refine g_putI C fo_X12_98 dX12_restore_13 rfl (by decide) rfl ?_
  refine g_aload_n C dX12_restore_16 rfl ?_
  refine g_getI C (a := (nI (0))) fo_X12_98 dX12_restore_17 rfl (by decide) (fun _ => rfl) rfl ?_
  refine n_if_eq C 24 dX12_restore_20 (fun h20 => ?_) (fun h20 => absurd h20 (by decide))
  refine n_iconst C 0 dX12_restore_24 ?_
  refine g_istore_n C (by rw [hmL]; decide) dX12_restore_25 [.ref 75, .int (nI (0))] rfl ?_
  refine lr_t hR hmL C (S0 := th S 0) (fun S1 k1 f1 d1 => ?_) 54 0 _ rfl (hS.fn (th_fs (c := 0)).1) FN.rf reg_0.symm
  refine n_iconst C 0 dX12_restore_50 ?_
  refine g_istore_n C (by rw [hmL]; decide) dX12_restore_51 [.ref 75, .int (nI 0)] rfl ?_
  refine lr_f hR hmL C (S0 := S1) (fun k hk => by rw [(f1.2 86 (by decide)).1]; exact hM.2.2.2.1.bool k hk) (fun S2 k2 f2 d2 => ?_) 18 0 S1 rfl k1 FN.rf reg_0.symm
  refine n_iconst C 0 dX12_restore_76 ?_
  refine g_istore_n C (by rw [hmL]; decide) dX12_restore_77 [.ref 75, .int (nI 0)] rfl ?_
  refine lr_n hR hmL C (S0 := S2) (fun S3 k3 f3 d3 => ?_) 3 0 S2 rfl k2 FN.rf reg_0.symm
  refine g_aload_n C dX12_restore_101 rfl ?_
  refine g_aload_n C dX12_restore_102 rfl ?_
  refine g_getI C (a := (mI S3 75 14)) fo_X12_290 dX12_restore_103 rfl (by decide) (fun _ => rfl) rfl ?_
  refine g_putI C fo_X12_146 dX12_restore_106 rfl (by decide) rfl ?_
  refine n_iconst C 0 dX12_restore_109 ?_
  refine g_istore_n C (by rw [hmL]; decide) dX12_restore_110 [.ref 75, .int (nI (0))] rfl ?_
  refine lr_w hR hmL C (S0 := wI S3 75 (va_up (mI S3 75) 4 (mI S3 75 14))) (fun S5 k5 f5 d5 => ?_) 12 0 _ rfl (k3.fn (FN.wI (P := mC) (by decide))) FN.rf reg_0.symm
  have e1 : ∀ r, r ≠ 77 → mI S1 r = mI (th S 0) r := fun r h => (f1.2 r h).1
  have e2 : ∀ r, r ≠ 78 → mI S2 r = mI S1 r := fun r h => (f2.2 r h).1
  have e3 : ∀ r, r ≠ 76 → mI S3 r = mI S2 r := fun r h => (f3.2 r h).1
  have e5 : ∀ r, r ≠ 79 → r ≠ 75 → mI S5 r = mI S3 r := fun r h h' => (f5.2 r h).1.trans (mI_wI_ne h')
  have e75 : mI S3 75 = mI (th S 0) 75 := by rw [e3 75 (by decide), e2 75 (by decide), e1 75 (by decide)]
  have c75 : mI S5 75 = va_up (mI S3 75) 4 (mI S3 75 14) := (f5.2 75 (by decide)).1.trans mI_wI
  have all : ∀ r, r = 84 ∨ r = 85 ∨ r = 86 ∨ r = 87 ∨ r = 80 ∨ r = 81 → mI S5 r = mI S r := fun r h => by
    rw [e5 r (by omega) (by omega), e3 r (by omega), e2 r (by omega), e1 r (by omega)]
    rcases h with rfl | rfl | rfl | rfl | rfl | rfl <;> rfl
  have fr : FN mC S S5 := ((((FN.wI (by decide)).tr (f1.mono (fun r h => by rw [h]; decide))).tr (f2.mono (fun r h => by rw [h]; decide))).tr (f3.mono (fun r h => by rw [h]; decide))).tr ((FN.wI (by decide)).tr (f5.mono (fun r h => by rw [h]; decide)))
  have x82 : mF S5 82 = mF S 82 := (f5.2 82 (by decide)).2.2.1.trans ((f3.2 82 (by decide)).2.2.1.trans ((f2.2 82 (by decide)).2.2.1.trans (f1.2 82 (by decide)).2.2.1))
  have x83 : mD S5 83 = mD S 83 := (f5.2 83 (by decide)).2.2.2.trans ((f3.2 83 (by decide)).2.2.2.trans ((f2.2 83 (by decide)).2.2.2.trans (f1.2 83 (by decide)).2.2.2))
  refine g_vret C E dX12_restore_135 (by rw [hR]; decide) (by rw [hR]; decide) ⟨rfl, by rw [c75, e75]; rfl, ⟨hM.2.2.2.1.cp (fun k hk => ?_) (fun k hk => ?_) (fun k hk => ?_), ⟨?_, fun i hi => ?_⟩, by rw [c75, e75]; exact hM.2.2.1, hM.2.2.2.1.keep (all 84 (by omega)) (all 85 (by omega)) (all 86 (by omega)), hM.2.2.2.2.1.keep (by rw [c75, e75]; rfl) (all 87 (by omega)), hM.2.2.2.2.2.keep (all 80 (by omega)) (all 81 (by omega)) x82 x83⟩, fr⟩
  · rw [e5 76 (by decide) (by decide), d3, reg0 hk, e2 84 (by decide), e1 84 (by decide)]; rfl
  · rw [e5 77 (by decide) (by decide), e3 77 (by decide), e2 77 (by decide), d1, reg0 hk]; rfl
  · rw [e5 78 (by decide) (by decide), e3 78 (by decide), d2, reg0 hk, e1 86 (by decide)]; rfl
  · rw [c75, up_same, e75]; exact hM.2.2.2.2.1.1
  · rw [d5, reg0 hi]
    show mI S3 87 i = _
    rw [e3 87 (by decide), e2 87 (by decide), e1 87 (by decide)]
    exact hM.2.2.2.2.1.2 i hi

set_option maxRecDepth 100000 in
theorem m_restore_n (l : Launch) {S : pv_M} {A : Ab} (hS : GS S) (hM : MSt S A) (hs : A.2.1.1 = false) : mt l MX12_restore 106 [.ref 75] S (fun v S' => v = none ∧ S' = th S 1) := by
  refine mt_of (by decide) (Nat.le_of_ble_eq_true rfl) ?_
  intro x hl hR hmL C E
  show GG x 106 0 0 [.ref 75, unk] [] S 0
  refine g_aload_n C dX12_restore_0 rfl ?_
  refine g_aload_n C dX12_restore_1 rfl ?_
  refine g_getI C fo_X12_286 dX12_restore_2 rfl (by decide) (fun _ => rfl) (by rw [hM.2.2.1, hs]) ?_
  refine b_if_eq C 12 dX12_restore_5 (fun h5 => ?_) (fun h5 => absurd h5 (by decide))
  refine n_iconst C 1 dX12_restore_12 ?_
  refine g_putI C fo_X12_98 dX12_restore_13 rfl (by decide) rfl ?_
  refine g_aload_n C dX12_restore_16 rfl ?_
  refine g_getI C (a := (nI (1))) fo_X12_98 dX12_restore_17 rfl (by decide) (fun _ => rfl) rfl ?_
  refine n_if_eq C 24 dX12_restore_20 (fun h20 => absurd h20 (by decide)) (fun h20 => ?_)
  exact g_vret C E dX12_restore_23 (by rw [hR]; decide) (by rw [hR]; decide) ⟨rfl, rfl⟩
