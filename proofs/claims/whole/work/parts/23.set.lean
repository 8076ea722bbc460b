set_option maxRecDepth 100000 in
theorem c_X8_of (l : Launch) {p v : Nat} {S : pv_M} (hM : SMAt S p v) {q X y : Nat} (h1 : q < 3) (h2 : X < 64) (hy : mI S v (q * 64 + X) = nI y) : mt l MX8_of 106 [.ref p, .int (nI (q)), .int (nI (X))] S (fun w S' => w = some (.int (nI y)) ∧ S' = S) := by
  refine mt_of (by decide) (Nat.le_of_ble_eq_true rfl) ?_
  intro x hl hR hmL C E
  show GG x 106 0 0 [.ref p, .int (nI (q)), .int (nI (X))] [] S 0
  refine g_aload_n C dX8_of_0 rfl ?_
  refine g_getR C fo_X8_9 dX8_of_1 hM.1 hM.2.1 (fun _ => rfl) hM.2.2.2.2 ?_
  refine g_iload_n C dX8_of_4 rfl ?_
  refine n_bipush C 64 dX8_of_5 ?_
  refine n_imul C dX8_of_7 ?_
  refine g_iload_n C dX8_of_8 rfl ?_
  refine n_iadd C dX8_of_9 ?_
  refine n_iald C dX8_of_10 hM.2.2.1 hM.2.2.2.1 hy ?_ (by omega)
  exact g_iret C E dX8_of_11 (by rw [hR]; decide) (by rw [hR]; decide) ⟨rfl, rfl⟩

set_option maxRecDepth 100000 in
theorem lp_X8_joinSingles {x : Cx} (hR : xR x = MX8_joinSingles.rm) (hmL : (xc x).maxLocals = MX8_joinSingles.nL) (C : BX x cX8_joinSingles RX8) {p v q k : Nat} {g : Nat → Nat} {S0 : pv_M} (h1 : q < 3) (h6 : k ≤ 6) (hg : ∀ s, s < 6 → g s < 64) (kk : ∀ S, SMAt S p v → FN (fun r => r = v) S0 S → (∀ Y, Y < 2 ^ k → (Y < 2 ^ k ∨ ∃ s, s < k ∧ Y = 2 ^ s) → mI S v (q * 64 + Y) = nI (un g Y)) → (∀ j, (j < q * 64 ∨ q * 64 + 64 ≤ j) → mI S v j = mI S0 v j) → GG x 106 0 0 [.ref p, .int (nI (q)), .int (nI (k)), .int (nI (2 ^ k)), unk] [] (S) 65) : ∀ d X (S : pv_M), X + d = 2 ^ k → 0 < X → SMAt S p v → FN (fun r => r = v) S0 S → (∀ Y, Y < 2 ^ k → (Y < X ∨ ∃ s, s < k ∧ Y = 2 ^ s) → mI S v (q * 64 + Y) = nI (un g Y)) → (∀ j, (j < q * 64 ∨ q * 64 + 64 ≤ j) → mI S v j = mI S0 v j) → GG x 106 0 0 [.ref p, .int (nI (q)), .int (nI (k)), .int (nI (X)), unk] [] (S) 12 := by
  obtain ⟨hk1, hk2⟩ := pow_le6 k h6
  intro d
  induction d with
  | zero =>
    intro X S hX h0 hM hf hz hr
    obtain rfl : X = 2 ^ k := by omega
    refine g_iload_n C dX8_joinSingles_12 rfl ?_
    refine n_iconst C 1 dX8_joinSingles_13 ?_
    refine g_iload_n C dX8_joinSingles_14 rfl ?_
    refine n_ishl C dX8_joinSingles_15 ?_ (by omega) hk1
    refine n_ic_ge C 65 dX8_joinSingles_16 (fun h16 => ?_) (fun h16 => absurd h16 (by rw [pow_one]; omega))
    exact kk S hM hf hz hr
  | succ d ih =>
    intro X S hX h0 hM hf hz hr
    have hX64 : X < 64 := by omega
    obtain ⟨r1, r2, r3, r4, r5⟩ := rst_facts X hX64 h0
    have hXk : X < 2 ^ k := by omega
    refine g_iload_n C dX8_joinSingles_12 rfl ?_
    refine n_iconst C 1 dX8_joinSingles_13 ?_
    refine g_iload_n C dX8_joinSingles_14 rfl ?_
    refine n_ishl C dX8_joinSingles_15 ?_ (by omega) hk1
    refine n_ic_ge C 65 dX8_joinSingles_16 (fun h16 => absurd h16 (by rw [pow_one]; omega)) (fun h16 => ?_)
    refine g_iload_n C dX8_joinSingles_19 rfl ?_
    refine g_iload_n C dX8_joinSingles_20 rfl ?_
    refine n_iconst C 1 dX8_joinSingles_21 ?_
    refine n_isub C dX8_joinSingles_22 ?_
    refine n_iand C dX8_joinSingles_23 ?_
    refine g_istore C (by rw [hmL]; decide) dX8_joinSingles_24 [.ref p, .int (nI (q)), .int (nI (k)), .int (nI (X)), .int (nI (rst X))] rfl ?_
    refine g_iload C dX8_joinSingles_26 rfl ?_
    refine n_if_eq C 59 dX8_joinSingles_28 (fun h28 => ?_) (fun h28 => ?_)
    · refine n_iinc C (by rw [hmL]; decide) dX8_joinSingles_59 rfl (n_i1 _) [.ref p, .int (nI (q)), .int (nI (k)), .int (nI (X + 1)), .int (nI (rst X))] ?_
      refine g_goto C 12 dX8_joinSingles_62 (by decide) ?_
      refine g_less [.ref p, .int (nI q), .int (nI k), .int (nI (X + 1)), unk] (fun i w hw => ?_) (ih (X + 1) S (by omega) (by omega) hM hf (fun Y hY hc => ?_) hr)
      · match i, hw with
        | 0, hw => exact Or.inr hw
        | 1, hw => exact Or.inr hw
        | 2, hw => exact Or.inr hw
        | 3, hw => exact Or.inr hw
        | 4, hw => exact Or.inl (Option.some.inj hw).symm
      · by_cases e : Y = X
        · subst e
          obtain ⟨s, hs, e2⟩ := r2 h28
          exact hz _ hY (Or.inr ⟨s, pow_lt6 k h6 s hs (by omega), e2⟩)
        · exact hz Y hY (hc.imp (fun h => by omega) id)
    · refine g_aload_n C dX8_joinSingles_31 rfl ?_
      refine g_getR C fo_X8_9 dX8_joinSingles_32 hM.1 hM.2.1 (fun _ => rfl) hM.2.2.2.2 ?_
      refine g_iload_n C dX8_joinSingles_35 rfl ?_
      refine n_bipush C 64 dX8_joinSingles_36 ?_
      refine n_imul C dX8_joinSingles_38 ?_
      refine g_iload_n C dX8_joinSingles_39 rfl ?_
      refine n_iadd C dX8_joinSingles_40 ?_
      refine g_aload_n C dX8_joinSingles_41 rfl ?_
      refine g_iload_n C dX8_joinSingles_42 rfl ?_
      refine g_iload C dX8_joinSingles_43 rfl ?_
      refine g_callV C (As := [.int (nI (q)), .int (nI (rst X))]) (c_X8_of _ hM h1 (by omega) (hz (rst X) (by omega) (Or.inl r1))) vo_X8_29 dX8_joinSingles_45 rfl hM.1 hM.2.1 rfl (rm_ok (M' := MX8_joinSingles) hR (by decide)) (Nat.le_of_ble_eq_true rfl) (fun v9 S9 h9 => ?_)
      obtain ⟨rfl, h9⟩ := h9
      refine g_S S h9 ?_
      refine g_n0 [.int (nI (un g (rst X))), .int (nI (((q) * (64)) + (X))), .ref v] rfl rfl rfl ?_
      refine g_aload_n C dX8_joinSingles_48 rfl ?_
      refine g_iload_n C dX8_joinSingles_49 rfl ?_
      refine g_iload_n C dX8_joinSingles_50 rfl ?_
      refine g_iload_n C dX8_joinSingles_51 rfl ?_
      refine g_ineg C dX8_joinSingles_52 ?_
      refine g_iand C dX8_joinSingles_53 ?_
      rw [r5]
      refine g_callV C (As := [.int (nI (q)), .int (nI (lowb X))]) (c_X8_of _ hM h1 (by omega) (hz (lowb X) (by omega) (Or.inl (r3 h28)))) vo_X8_29 dX8_joinSingles_54 rfl hM.1 hM.2.1 rfl (rm_ok (M' := MX8_joinSingles) hR (by decide)) (Nat.le_of_ble_eq_true rfl) (fun v9 S9 h9 => ?_)
      obtain ⟨rfl, h9⟩ := h9
      refine g_S S h9 ?_
      refine g_n0 [.int (nI (un g (lowb X))), .int (nI (un g (rst X))), .int (nI (((q) * (64)) + (X))), .ref v] rfl rfl rfl ?_
      refine n_ior C dX8_joinSingles_57 ?_
      refine g_iast C dX8_joinSingles_58 hM.2.2.1 hM.2.2.2.1 (by omega) rfl ?_
      refine n_iinc C (by rw [hmL]; decide) dX8_joinSingles_59 rfl (n_i1 _) [.ref p, .int (nI (q)), .int (nI (k)), .int (nI (X + 1)), .int (nI (rst X))] ?_
      refine g_goto C 12 dX8_joinSingles_62 (by decide) ?_
      refine g_less [.ref p, .int (nI q), .int (nI k), .int (nI (X + 1)), unk] (fun i w hw => ?_) (ih (X + 1) _ (by omega) (by omega) hM.keepI (hf.tr (FN.wI rfl)) (fun Y hY hc => ?_) (fun j hj => ?_))
      · match i, hw with
        | 0, hw => exact Or.inr hw
        | 1, hw => exact Or.inr hw
        | 2, hw => exact Or.inr hw
        | 3, hw => exact Or.inr hw
        | 4, hw => exact Or.inl (Option.some.inj hw).symm
      · rw [mI_wI]
        by_cases e : Y = X
        · subst e
          rw [up_same, un_split r4]
        · rw [va_up_ne _ _ (by omega)]
          exact hz Y hY (hc.imp (fun h => by omega) id)
      · rw [mI_wI, va_up_ne _ _ (by omega)]
        exact hr j hj

set_option maxRecDepth 100000 in
theorem c_X8_joinSingles (l : Launch) {p v : Nat} {S : pv_M} (hM : SMAt S p v) {q k : Nat} {g : Nat → Nat} (h1 : q < 3) (h6 : k ≤ 6) (hg : ∀ s, s < 6 → g s < 64) (hs : ∀ s, s < k → mI S v (q * 64 + 2 ^ s) = nI (g s)) : mt l MX8_joinSingles 106 [.ref p, .int (nI (q)), .int (nI (k))] S (fun w S' => w = none ∧ SMAt S' p v ∧ FN (fun r => r = v) S S' ∧ (∀ Y, Y < 2 ^ k → mI S' v (q * 64 + Y) = nI (un g Y)) ∧ ∀ j, (j < q * 64 ∨ q * 64 + 64 ≤ j) → mI S' v j = mI S v j) := by
  refine mt_of (by decide) (Nat.le_of_ble_eq_true rfl) ?_
  intro x hl hR hmL C E
  show GG x 106 0 0 [.ref p, .int (nI (q)), .int (nI (k)), unk, unk] [] S 0
  refine g_aload_n C dX8_joinSingles_0 rfl ?_
  refine g_getR C fo_X8_9 dX8_joinSingles_1 hM.1 hM.2.1 (fun _ => rfl) hM.2.2.2.2 ?_
  refine g_iload_n C dX8_joinSingles_4 rfl ?_
  refine n_bipush C 64 dX8_joinSingles_5 ?_
  refine n_imul C dX8_joinSingles_7 ?_
  refine n_iconst C 0 dX8_joinSingles_8 ?_
  refine g_iast C dX8_joinSingles_9 hM.2.2.1 hM.2.2.2.1 (by omega) rfl ?_
  refine n_iconst C 1 dX8_joinSingles_10 ?_
  refine g_istore_n C (by rw [hmL]; decide) dX8_joinSingles_11 [.ref p, .int (nI (q)), .int (nI (k)), .int (nI (1)), unk] rfl ?_
  obtain ⟨hk1, hk2⟩ := pow_le6 k h6
  refine lp_X8_joinSingles hR hmL C (S0 := S) h1 h6 hg (fun S1 hM1 hf1 hz1 hr1 => ?_) (2 ^ k - 1) 1 _ (by have := Nat.one_le_two_pow (n := k); omega) (by decide) hM.keepI (FN.wI rfl) (fun Y hY hc => ?_) (fun j hj => ?_)
  · exact g_vret C E dX8_joinSingles_65 (by rw [hR]; decide) (by rw [hR]; decide) ⟨rfl, hM1, hf1, fun Y hY => hz1 Y hY (Or.inl hY), hr1⟩
  · rw [mI_wI]
    by_cases e : Y = 0
    · subst e
      rw [un_0]
      simp [va_up]
    · rw [va_up_ne _ _ (by omega)]
      obtain ⟨s, hs1, e2⟩ : ∃ s, s < k ∧ Y = 2 ^ s := hc.elim (fun h => by omega) id
      rw [e2, un_1 g s (by omega)]
      exact hs s hs1
  · rw [mI_wI, va_up_ne _ _ (by omega)]
