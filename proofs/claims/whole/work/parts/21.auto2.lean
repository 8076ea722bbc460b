theorem ao_X1_22 : AO RX1 22 := ⟨tb_in 396 (by decide +kernel) (by decide +kernel), tb_in 398 (by decide +kernel) (by decide +kernel), tb_in 397 (by decide +kernel) (by decide +kernel), tb_in 77 (by decide +kernel) (by decide +kernel)⟩
theorem ao_X10_19 : AO RX10 19 := ⟨tb_in 403 (by decide +kernel) (by decide +kernel), tb_in 398 (by decide +kernel) (by decide +kernel), tb_in 397 (by decide +kernel) (by decide +kernel), tb_in 77 (by decide +kernel) (by decide +kernel)⟩
set_option maxRecDepth 100000 in
theorem c_X1_copyFrom (l : Launch) {a t n F b u n2 F2 : Nat} {T T2 : Nat → Nat} {S : pv_M} (hA : AutoAt S a t n T F) (hB : AutoAt S b u n2 T2 F2) (hab : a ≠ b) (htu : t ≠ u) : mt l MX1_copyFrom 106 [.ref a, .ref b] S (fun v S' => v = none ∧ AutoAt S' a t n2 T2 F2 ∧ FN (two a t) S S') := by
  have hua : u ≠ a := fun e => by have h1 := hA.1; rw [← e, hB.2.2.1] at h1; cases h1
  refine mt_of (by decide) (Nat.le_of_ble_eq_true rfl) ?_
  intro x hl hR hmL C E
  show GG x 106 0 0 [.ref a, .ref b] [] S 0
  refine g_aload_n C dX1_copyFrom_0 rfl ?_
  refine g_aload_n C dX1_copyFrom_1 rfl ?_
  refine g_getI C fo_X1_9 dX1_copyFrom_2 hB.1 hB.2.1 (fun _ => rfl) hB.2.2.2.2.2.1 ?_
  refine g_putI C fo_X1_9 dX1_copyFrom_5 hA.1 hA.2.1 rfl ?_
  refine g_aload_n C dX1_copyFrom_8 rfl ?_
  refine g_aload_n C dX1_copyFrom_9 rfl ?_
  refine g_getI C fo_X1_19 dX1_copyFrom_10 hB.1 hB.2.1 (fun _ => rfl) (rI_n (Ne.symm hab) hB.2.2.2.2.2.2.1) ?_
  refine g_putI C fo_X1_19 dX1_copyFrom_13 hA.1 hA.2.1 rfl ?_
  refine g_aload_n C dX1_copyFrom_16 rfl ?_
  refine g_getR C fo_X1_15 dX1_copyFrom_17 hB.1 hB.2.1 (fun _ => rfl) hB.2.2.2.2.1 ?_
  refine n_iconst C 0 dX1_copyFrom_20 ?_
  refine g_aload_n C dX1_copyFrom_21 rfl ?_
  refine g_getR C fo_X1_15 dX1_copyFrom_22 hA.1 hA.2.1 (fun _ => rfl) hA.2.2.2.2.1 ?_
  refine n_iconst C 0 dX1_copyFrom_25 ?_
  refine n_bipush C 18 dX1_copyFrom_26 ?_
  refine g_acopy C ao_X1_22 dX1_copyFrom_28 hB.2.2.1 hB.2.2.2.1 hA.2.2.1 hA.2.2.2.1 (by rw [hR]; decide) (by rw [hR]; decide) ?_
  have f1 : FN (two a t) S (wI S a (va_up (mI S a) 0 (nI n2))) := FN.wI (Or.inl rfl)
  have f2 := f1.tr (FN.wI (Or.inl rfl) : FN (two a t) _ (wI (wI S a (va_up (mI S a) 0 (nI n2))) a (va_up (mI (wI S a (va_up (mI S a) 0 (nI n2))) a) 2 (nI F2))))
  refine g_vret C E dX1_copyFrom_31 (by rw [hR]; decide) (by rw [hR]; decide) ⟨rfl, ?_, f2.tr (FN.wI (Or.inr rfl))⟩
  have hA2 : AutoAt _ a t n2 T F2 := hA.putN.putF
  have hu : ¬ two a t u := fun h => h.elim hua (fun e => htu e.symm)
  refine ⟨hA.1, hA.2.1, hA.2.2.1, hA.2.2.2.1, hA.2.2.2.2.1, rI_n hA.ne hA2.2.2.2.2.2.1, rI_n hA.ne hA2.2.2.2.2.2.2.1, fun j hj => ?_⟩
  rw [mI_wI, pk_cpy_in (Nat.zero_le _) (by omega), Nat.sub_zero, Nat.zero_add, (f2.2 u hu).1]
  exact hB.2.2.2.2.2.2.2 j hj

set_option maxRecDepth 100000 in
theorem lp_X1_stateAfter {x : Cx} (hR : xR x = MX1_stateAfter.rm) (hmL : (xc x).maxLocals = MX1_stateAfter.nL) (C : BX x cX1_stateAfter RX1) {a t n F : Nat} {T : Nat → Nat} {S : pv_M} (hA : AutoAt S a t n T F) {w u m : Nat} {L : Nat → Nat} (hW : WordAt S w u m L) (h1 : ∀ k, stA T L 0 k < 6) (h2 : ∀ j, j < m → L j < 3) (k : GG x 106 0 0 [.ref a, .ref w, .int (nI (stA T L 0 m)), .int (nI (m))] [] (S) 30) : ∀ d i, i + d = m → GG x 106 0 0 [.ref a, .ref w, .int (nI (stA T L 0 i)), .int (nI (i))] [] (S) 4 := by
  have hm := hW.2.2.2.2.2.2.1
  intro d
  induction d with
  | zero =>
    intro i hi
    obtain rfl : i = m := by omega
    refine g_iload_n C dX1_stateAfter_4 rfl ?_
    refine g_aload_n C dX1_stateAfter_5 rfl ?_
    refine g_getI C fo_X1_28 dX1_stateAfter_6 hW.1 hW.2.1 (fun _ => rfl) hW.2.2.2.2.2.1 ?_
    refine n_ic_ge C 30 dX1_stateAfter_9 (fun h9 => ?_) (fun h9 => absurd h9 (by omega))
    exact k
  | succ d ih =>
    intro i hi
    have h3 := h1 i
    have h4 := h2 i (by omega)
    refine g_iload_n C dX1_stateAfter_4 rfl ?_
    refine g_aload_n C dX1_stateAfter_5 rfl ?_
    refine g_getI C fo_X1_28 dX1_stateAfter_6 hW.1 hW.2.1 (fun _ => rfl) hW.2.2.2.2.2.1 ?_
    refine n_ic_ge C 30 dX1_stateAfter_9 (fun h9 => absurd h9 (by omega)) (fun h9 => ?_)
    refine g_aload_n C dX1_stateAfter_12 rfl ?_
    refine g_iload_n C dX1_stateAfter_13 rfl ?_
    refine g_aload_n C dX1_stateAfter_14 rfl ?_
    refine g_getR C fo_X1_33 dX1_stateAfter_15 hW.1 hW.2.1 (fun _ => rfl) hW.2.2.2.2.1 ?_
    refine g_iload_n C dX1_stateAfter_18 rfl ?_
    refine n_iald C dX1_stateAfter_19 hW.2.2.1 hW.2.2.2.1 (hW.2.2.2.2.2.2.2 _ (by omega)) ?_ (by omega)
    refine g_callV C (As := [.int (nI (stA T L 0 i)), .int (nI (L (i)))]) (c_X1_follow _ hA (by omega)) vo_X1_36 dX1_stateAfter_20 rfl hA.1 hA.2.1 rfl (rm_ok (M' := MX1_stateAfter) hR (by decide)) (Nat.le_of_ble_eq_true rfl) (fun v9 S9 h9 => ?_)
    obtain ⟨rfl, h9⟩ := h9
    refine g_S S h9 ?_
    refine g_n0 [.int (nI (stA T L 0 (i + 1)))] rfl rfl rfl ?_
    refine g_istore_n C (by rw [hmL]; decide) dX1_stateAfter_23 [.ref a, .ref w, .int (nI (stA T L 0 (i + 1))), .int (nI (i))] rfl ?_
    refine n_iinc C (by rw [hmL]; decide) dX1_stateAfter_24 rfl (n_i1 _) [.ref a, .ref w, .int (nI (stA T L 0 (i + 1))), .int (nI (i + 1))] ?_
    refine g_goto C 4 dX1_stateAfter_27 (by decide) ?_
    exact ih (i + 1) (by omega)

set_option maxRecDepth 100000 in
theorem c_X1_stateAfter (l : Launch) {a t n F : Nat} {T : Nat → Nat} {S : pv_M} (hA : AutoAt S a t n T F) {w u m : Nat} {L : Nat → Nat} (hW : WordAt S w u m L) (h1 : ∀ k, stA T L 0 k < 6) (h2 : ∀ j, j < m → L j < 3) : mt l MX1_stateAfter 106 [.ref a, .ref w] S (fun v S' => v = some (.int (nI (stA T L 0 m))) ∧ S' = S) := by
  refine mt_of (by decide) (Nat.le_of_ble_eq_true rfl) ?_
  intro x hl hR hmL C E
  show GG x 106 0 0 [.ref a, .ref w, unk, unk] [] S 0
  refine n_iconst C 0 dX1_stateAfter_0 ?_
  refine g_istore_n C (by rw [hmL]; decide) dX1_stateAfter_1 [.ref a, .ref w, .int (nI (0)), unk] rfl ?_
  refine n_iconst C 0 dX1_stateAfter_2 ?_
  refine g_istore_n C (by rw [hmL]; decide) dX1_stateAfter_3 [.ref a, .ref w, .int (nI (0)), .int (nI (0))] rfl ?_
  exact lp_X1_stateAfter hR hmL C hA hW h1 h2 (g_iload_n C dX1_stateAfter_30 rfl (g_iret C E dX1_stateAfter_31 (by rw [hR]; decide) (by rw [hR]; decide) ⟨rfl, rfl⟩)) m 0 (by omega)

set_option maxRecDepth 100000 in
theorem c_X1_nextValue (l : Launch) {S : pv_M} {seed : Int32} {k : Nat} : mt l MX1_nextValue 106 [.int (drw seed k)] S (fun v S' => v = some (.int (drw seed (k + 1))) ∧ S' = S) := by
  refine mt_of (by decide) (Nat.le_of_ble_eq_true rfl) ?_
  intro x hl hR hmL C E
  refine g_iload_n C dX1_nextValue_0 rfl ?_
  refine g_ldc C dX1_nextValue_1 kc_X1_51 ?_
  refine g_imul C dX1_nextValue_3 ?_
  refine g_sipush C 12345 dX1_nextValue_4 (by decide) ?_
  refine g_iadd C dX1_nextValue_7 ?_
  exact g_iret C E dX1_nextValue_8 (by rw [hR]; decide) (by rw [hR]; decide) ⟨rfl, rfl⟩

set_option maxRecDepth 100000 in
theorem c_X1_draw (l : Launch) {S : pv_M} {seed : Int32} {k m : Nat} (h0 : 0 < m) (h1 : m < 100) : mt l MX1_draw 106 [.int (drw seed (k + 1)), .int (nI m)] S (fun v S' => v = some (.int (nI (dv seed k m))) ∧ S' = S) := by
  have h16 := x16 (drw seed (k + 1))
  refine mt_of (by decide) (Nat.le_of_ble_eq_true rfl) ?_
  intro x hl hR hmL C E
  refine g_iload_n C dX1_draw_0 rfl ?_
  refine g_if_le C 13 dX1_draw_1 (by decide) (fun h => absurd h (nI_nle h0 (by omega))) (fun _ => ?_)
  refine g_iload_n C dX1_draw_4 rfl ?_
  refine n_bipush C 16 dX1_draw_5 ?_
  refine n_iushr C dX1_draw_7 ?_ (by decide)
  refine g_iload_n C dX1_draw_8 rfl ?_
  refine n_irem C dX1_draw_9 ?_
  refine g_goto C 14 dX1_draw_10 (by decide) ?_
  exact g_iret C E dX1_draw_14 (by rw [hR]; decide) (by rw [hR]; decide) ⟨rfl, rfl⟩
