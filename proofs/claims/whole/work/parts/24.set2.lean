def fwS (T : Nat → Nat) (n l s : Nat) : Nat := if s < n then 2 ^ (T (s * 3 + l)) else 0
theorem fwS_lt {T : Nat → Nat} {n l : Nat} (h : ∀ j, j < n * 3 → T j < 6) (hl : l < 3) (s : Nat) : fwS T n l s < 64 := by
  unfold fwS
  by_cases e : s < n
  · rw [if_pos e]; exact pow64 _ (h _ (by omega))
  · rw [if_neg e]; decide
theorem SMAt.ne {S : pv_M} {p v a t n F : Nat} {T : Nat → Nat} (h : SMAt S p v) (hA : AutoAt S a t n T F) : v ≠ a ∧ v ≠ t := by
  refine ⟨fun e => ?_, fun e => ?_⟩
  · have h1 := hA.1
    rw [← e, h.2.2.1] at h1
    cases h1
  · have h1 := hA.2.2.1
    rw [← e, h.2.2.1] at h1
    cases h1
theorem AutoAt.wIv {S : pv_M} {p v a t n F : Nat} {T : Nat → Nat} {f : Nat → Int32} (hA : AutoAt S a t n T F) (h : SMAt S p v) : AutoAt (wI S v f) a t n T F := hA.keep (P := fun r => r = v) (FN.wI rfl) (fun e => (h.ne hA).1 e.symm) (fun e => (h.ne hA).2 e.symm)
theorem AutoAt.fv {S S' : pv_M} {p v a t n F : Nat} {T : Nat → Nat} (hA : AutoAt S a t n T F) (h : SMAt S p v) (k : FN (fun r => r = v) S S') : AutoAt S' a t n T F := hA.keep k (fun e => (h.ne hA).1 e.symm) (fun e => (h.ne hA).2 e.symm)

set_option maxRecDepth 100000 in
theorem lp_X8_fillForward_9 {x : Cx} (hR : xR x = MX8_fillForward.rm) (hmL : (xc x).maxLocals = MX8_fillForward.nL) (C : BX x cX8_fillForward RX8) {p v a t k F : Nat} {T : Nat → Nat} {S0 : pv_M} {q : Nat} (h1 : q < 3) (h6 : k ≤ 6) (hT : ∀ j, j < k * 3 → T j < 6) (kk : ∀ S, SMAt S p v → AutoAt S a t k T F → FN (fun r => r = v) S0 S → (∀ s, s < k → mI S v (q * 64 + 2 ^ s) = nI (fwS T k q s)) → (∀ j, (j < q * 64 ∨ q * 64 + 64 ≤ j) → mI S v j = mI S0 v j) → GG x 106 0 0 [.ref p, .ref a, .int (nI (q)), .int (nI (k))] [] (S) 44) : ∀ d i (S : pv_M), i + d = k → SMAt S p v → AutoAt S a t k T F → FN (fun r => r = v) S0 S → (∀ s, s < i → mI S v (q * 64 + 2 ^ s) = nI (fwS T k q s)) → (∀ j, (j < q * 64 ∨ q * 64 + 64 ≤ j) → mI S v j = mI S0 v j) → GG x 106 0 0 [.ref p, .ref a, .int (nI (q)), .int (nI (i))] [] (S) 9 := by
  intro d
  induction d with
  | zero =>
    intro i S hi hM hA hf hz hr
    obtain rfl : i = k := by omega
    refine g_iload_n C dX8_fillForward_9 rfl ?_
    refine g_aload_n C dX8_fillForward_10 rfl ?_
    refine g_getI C fo_X8_15 dX8_fillForward_11 hA.1 hA.2.1 (fun _ => rfl) hA.2.2.2.2.2.1 ?_
    refine n_ic_ge C 44 dX8_fillForward_14 (fun h14 => ?_) (fun h14 => absurd h14 (by omega))
    exact kk S hM hA hf hz hr
  | succ d ih =>
    intro i S hi hM hA hf hz hr
    have hp := pow64 i (by omega)
    have hTi := hT (i * 3 + q) (by omega)
    refine g_iload_n C dX8_fillForward_9 rfl ?_
    refine g_aload_n C dX8_fillForward_10 rfl ?_
    refine g_getI C fo_X8_15 dX8_fillForward_11 hA.1 hA.2.1 (fun _ => rfl) hA.2.2.2.2.2.1 ?_
    refine n_ic_ge C 44 dX8_fillForward_14 (fun h14 => absurd h14 (by omega)) (fun h14 => ?_)
    refine g_aload_n C dX8_fillForward_17 rfl ?_
    refine g_getR C fo_X8_9 dX8_fillForward_18 hM.1 hM.2.1 (fun _ => rfl) hM.2.2.2.2 ?_
    refine g_iload_n C dX8_fillForward_21 rfl ?_
    refine n_bipush C 64 dX8_fillForward_22 ?_
    refine n_imul C dX8_fillForward_24 ?_
    refine n_iconst C 1 dX8_fillForward_25 ?_
    refine g_iload_n C dX8_fillForward_26 rfl ?_
    refine n_ishl C dX8_fillForward_27 ?_ (by omega) (pow6 i (by omega))
    refine n_iadd C dX8_fillForward_28 ?_
    refine n_iconst C 1 dX8_fillForward_29 ?_
    refine g_aload_n C dX8_fillForward_30 rfl ?_
    refine g_iload_n C dX8_fillForward_31 rfl ?_
    refine g_iload_n C dX8_fillForward_32 rfl ?_
    refine g_callV C (As := [.int (nI (i)), .int (nI (q))]) (c_X1_follow _ hA (by omega)) vo_X8_21 dX8_fillForward_33 rfl hA.1 hA.2.1 rfl (rm_ok (M' := MX8_fillForward) hR (by decide)) (Nat.le_of_ble_eq_true rfl) (fun v9 S9 h9 => ?_)
    obtain ⟨rfl, h9⟩ := h9
    refine g_S S h9 ?_
    refine g_n0 [.int (nI (T (i * 3 + q))), .int (nI (1)), .int (nI (((q) * (64)) + ((1) * 2 ^ (i)))), .ref v] rfl rfl rfl ?_
    refine n_ishl C dX8_fillForward_36 ?_ (by omega) (pow6 _ hTi)
    refine g_iast C dX8_fillForward_37 hM.2.2.1 hM.2.2.2.1 (by omega) rfl ?_
    refine n_iinc C (by rw [hmL]; decide) dX8_fillForward_38 rfl (n_i1 _) [.ref p, .ref a, .int (nI (q)), .int (nI (i + 1))] ?_
    refine g_goto C 9 dX8_fillForward_41 (by decide) ?_
    refine ih (i + 1) _ (by omega) hM.keepI (hA.wIv hM) (hf.tr (FN.wI rfl)) (fun s hs => ?_) (fun j hj => ?_)
    · rw [mI_wI]
      by_cases e : s = i
      · subst e
        rw [pow_one, up_same]
        unfold fwS
        rw [if_pos (show s < k by omega), pow_one]
      · rw [va_up_ne _ _ (fun z => e (pow_inj6 s (by omega) i (by omega) (by omega)))]
        exact hz s (by omega)
    · rw [mI_wI, va_up_ne _ _ (by omega)]
      exact hr j hj

set_option maxRecDepth 100000 in
theorem lp_X8_fillForward_2 {x : Cx} (hR : xR x = MX8_fillForward.rm) (hmL : (xc x).maxLocals = MX8_fillForward.nL) (C : BX x cX8_fillForward RX8) {p v a t k F : Nat} {T : Nat → Nat} {S0 : pv_M} (h6 : k ≤ 6) (hT : ∀ j, j < k * 3 → T j < 6) (kk : ∀ S, SMAt S p v → AutoAt S a t k T F → FN (fun r => r = v) S0 S → (∀ m, m < 3 → ∀ Y, Y < 2 ^ k → mI S v (m * 64 + Y) = nI (un (fwS T k m) Y)) → GG x 106 0 0 [.ref p, .ref a, .int (nI (3)), unk] [] (S) 59) : ∀ d q (S : pv_M), q + d = 3 → SMAt S p v → AutoAt S a t k T F → FN (fun r => r = v) S0 S → (∀ m, m < q → ∀ Y, Y < 2 ^ k → mI S v (m * 64 + Y) = nI (un (fwS T k m) Y)) → GG x 106 0 0 [.ref p, .ref a, .int (nI (q)), unk] [] (S) 2 := by
  obtain ⟨hk1, hk2⟩ := pow_le6 k h6
  intro d
  induction d with
  | zero =>
    intro q S hi hM hA hf hz
    obtain rfl : q = 3 := by omega
    refine g_iload_n C dX8_fillForward_2 rfl ?_
    refine n_iconst C 3 dX8_fillForward_3 ?_
    refine n_ic_ge C 59 dX8_fillForward_4 (fun h4 => ?_) (fun h4 => absurd h4 (by omega))
    exact kk S hM hA hf hz
  | succ d ih =>
    intro q S hi hM hA hf hz
    refine g_iload_n C dX8_fillForward_2 rfl ?_
    refine n_iconst C 3 dX8_fillForward_3 ?_
    refine n_ic_ge C 59 dX8_fillForward_4 (fun h4 => absurd h4 (by omega)) (fun h4 => ?_)
    refine n_iconst C 0 dX8_fillForward_7 ?_
    refine g_istore_n C (by rw [hmL]; decide) dX8_fillForward_8 [.ref p, .ref a, .int (nI (q)), .int (nI (0))] rfl ?_
    refine lp_X8_fillForward_9 hR hmL C (S0 := S) (by omega) h6 hT (fun S1 hM1 hA1 hf1 hz1 hr1 => ?_) k 0 S (by omega) hM hA FN.rf (fun s hs => absurd hs (Nat.not_lt_zero s)) (fun j hj => rfl)
    refine g_aload_n C dX8_fillForward_44 rfl ?_
    refine g_iload_n C dX8_fillForward_45 rfl ?_
    refine g_aload_n C dX8_fillForward_46 rfl ?_
    refine g_getI C fo_X8_15 dX8_fillForward_47 hA1.1 hA1.2.1 (fun _ => rfl) hA1.2.2.2.2.2.1 ?_
    refine g_callV C (As := [.int (nI (q)), .int (nI (k))]) (c_X8_joinSingles (g := fwS T k q) _ hM1 (by omega) h6 (fun s _ => fwS_lt hT (by omega) s) hz1) vo_X8_25 dX8_fillForward_50 rfl hM1.1 hM1.2.1 rfl (rm_ok (M' := MX8_fillForward) hR (by decide)) (Nat.le_of_ble_eq_true rfl) (fun v9 S9 h9 => ?_)
    obtain ⟨rfl, hM2, hf2, hz2, hr2⟩ := h9
    refine g_n0 [] rfl rfl rfl ?_
    refine n_iinc C (by rw [hmL]; decide) dX8_fillForward_53 rfl (n_i1 _) [.ref p, .ref a, .int (nI (q + 1)), .int (nI (k))] ?_
    refine g_goto C 2 dX8_fillForward_56 (by decide) ?_
    refine g_less [.ref p, .ref a, .int (nI (q + 1)), unk] (fun i w hw => ?_) (ih (q + 1) S9 (by omega) hM2 (hA1.fv hM1 hf2) (hf.tr (hf1.tr hf2)) (fun m hm Y hY => ?_))
    · match i, hw with
      | 0, hw => exact Or.inr hw
      | 1, hw => exact Or.inr hw
      | 2, hw => exact Or.inr hw
      | 3, hw => exact Or.inl (Option.some.inj hw).symm
    · by_cases e : m = q
      · subst e; exact hz2 Y hY
      · rw [hr2 _ (by omega), hr1 _ (by omega)]
        exact hz m (by omega) Y hY

set_option maxRecDepth 100000 in
theorem c_X8_fillForward (l : Launch) {p v a t k F : Nat} {T : Nat → Nat} {S : pv_M} (hM : SMAt S p v) (hA : AutoAt S a t k T F) (h6 : k ≤ 6) (hT : ∀ j, j < k * 3 → T j < 6) : mt l MX8_fillForward 106 [.ref p, .ref a] S (fun w S' => w = none ∧ SMAt S' p v ∧ FN (fun r => r = v) S S' ∧ (∀ m, m < 3 → ∀ Y, Y < 2 ^ k → mI S' v (m * 64 + Y) = nI (un (fwS T k m) Y))) := by
  refine mt_of (by decide) (Nat.le_of_ble_eq_true rfl) ?_
  intro x hl hR hmL C E
  show GG x 106 0 0 [.ref p, .ref a, unk, unk] [] S 0
  refine n_iconst C 0 dX8_fillForward_0 ?_
  refine g_istore_n C (by rw [hmL]; decide) dX8_fillForward_1 [.ref p, .ref a, .int (nI (0)), unk] rfl ?_
  refine lp_X8_fillForward_2 hR hmL C (S0 := S) h6 hT (fun S1 hM1 hA1 hf1 hz1 => ?_) 3 0 S (by omega) hM hA FN.rf (fun m hm => absurd hm (Nat.not_lt_zero m))
  exact g_vret C E dX8_fillForward_59 (by rw [hR]; decide) (by rw [hR]; decide) ⟨rfl, hM1, hf1, hz1⟩

set_option maxRecDepth 100000 in
theorem lp_X8_fillBackward_9 {x : Cx} (hR : xR x = MX8_fillBackward.rm) (hmL : (xc x).maxLocals = MX8_fillBackward.nL) (C : BX x cX8_fillBackward RX8) {p v a t k F : Nat} {T : Nat → Nat} {S0 : pv_M} {q : Nat} (h1 : q < 3) (h6 : k ≤ 6) (hT : ∀ j, j < k * 3 → T j < 6) (kk : ∀ S, SMAt S p v → AutoAt S a t k T F → FN (fun r => r = v) S0 S → (∀ s, s < k → mI S v (q * 64 + 2 ^ s) = nI 0) → (∀ j, (j < q * 64 ∨ q * 64 + 64 ≤ j) → mI S v j = mI S0 v j) → GG x 106 0 0 [.ref p, .ref a, .int (nI (q)), .int (nI (k))] [] (S) 37) : ∀ d i (S : pv_M), i + d = k → SMAt S p v → AutoAt S a t k T F → FN (fun r => r = v) S0 S → (∀ s, s < i → mI S v (q * 64 + 2 ^ s) = nI 0) → (∀ j, (j < q * 64 ∨ q * 64 + 64 ≤ j) → mI S v j = mI S0 v j) → GG x 106 0 0 [.ref p, .ref a, .int (nI (q)), .int (nI (i))] [] (S) 9 := by
  intro d
  induction d with
  | zero =>
    intro i S hi hM hA hf hz hr
    obtain rfl : i = k := by omega
    refine g_iload_n C dX8_fillBackward_9 rfl ?_
    refine g_aload_n C dX8_fillBackward_10 rfl ?_
    refine g_getI C fo_X8_15 dX8_fillBackward_11 hA.1 hA.2.1 (fun _ => rfl) hA.2.2.2.2.2.1 ?_
    refine n_ic_ge C 37 dX8_fillBackward_14 (fun h14 => ?_) (fun h14 => absurd h14 (by omega))
    exact kk S hM hA hf hz hr
  | succ d ih =>
    intro i S hi hM hA hf hz hr
    have hp := pow64 i (by omega)
    refine g_iload_n C dX8_fillBackward_9 rfl ?_
    refine g_aload_n C dX8_fillBackward_10 rfl ?_
    refine g_getI C fo_X8_15 dX8_fillBackward_11 hA.1 hA.2.1 (fun _ => rfl) hA.2.2.2.2.2.1 ?_
    refine n_ic_ge C 37 dX8_fillBackward_14 (fun h14 => absurd h14 (by omega)) (fun h14 => ?_)
    refine g_aload_n C dX8_fillBackward_17 rfl ?_
    refine g_getR C fo_X8_9 dX8_fillBackward_18 hM.1 hM.2.1 (fun _ => rfl) hM.2.2.2.2 ?_
    refine g_iload_n C dX8_fillBackward_21 rfl ?_
    refine n_bipush C 64 dX8_fillBackward_22 ?_
    refine n_imul C dX8_fillBackward_24 ?_
    refine n_iconst C 1 dX8_fillBackward_25 ?_
    refine g_iload_n C dX8_fillBackward_26 rfl ?_
    refine n_ishl C dX8_fillBackward_27 ?_ (by omega) (pow6 i (by omega))
    refine n_iadd C dX8_fillBackward_28 ?_
    refine n_iconst C 0 dX8_fillBackward_29 ?_
    refine g_iast C dX8_fillBackward_30 hM.2.2.1 hM.2.2.2.1 (by omega) rfl ?_
    refine n_iinc C (by rw [hmL]; decide) dX8_fillBackward_31 rfl (n_i1 _) [.ref p, .ref a, .int (nI (q)), .int (nI (i + 1))] ?_
    refine g_goto C 9 dX8_fillBackward_34 (by decide) ?_
    refine ih (i + 1) _ (by omega) hM.keepI (hA.wIv hM) (hf.tr (FN.wI rfl)) (fun s hs => ?_) (fun j hj => ?_)
    · rw [mI_wI]
      by_cases e : s = i
      · subst e
        rw [pow_one, up_same]
      · rw [va_up_ne _ _ (fun z => e (pow_inj6 s (by omega) i (by omega) (by omega)))]
        exact hz s (by omega)
    · rw [mI_wI, va_up_ne _ _ (by omega)]
      exact hr j hj

set_option maxRecDepth 100000 in
theorem lp_X8_fillBackward_39 {x : Cx} (hR : xR x = MX8_fillBackward.rm) (hmL : (xc x).maxLocals = MX8_fillBackward.nL) (C : BX x cX8_fillBackward RX8) {p v a t k F : Nat} {T : Nat → Nat} {S0 : pv_M} {q : Nat} (h1 : q < 3) (h6 : k ≤ 6) (hT : ∀ j, j < k * 3 → T j < k) (kk : ∀ S, SMAt S p v → AutoAt S a t k T F → FN (fun r => r = v) S0 S → (∀ s, s < k → mI S v (q * 64 + 2 ^ s) = nI (bk T q k s)) → (∀ j, (j < q * 64 ∨ q * 64 + 64 ≤ j) → mI S v j = mI S0 v j) → GG x 106 0 0 [.ref p, .ref a, .int (nI (q)), .int (nI (k))] [] (S) 77) : ∀ d i (S : pv_M), i + d = k → SMAt S p v → AutoAt S a t k T F → FN (fun r => r = v) S0 S → (∀ s, s < k → mI S v (q * 64 + 2 ^ s) = nI (bk T q i s)) → (∀ j, (j < q * 64 ∨ q * 64 + 64 ≤ j) → mI S v j = mI S0 v j) → GG x 106 0 0 [.ref p, .ref a, .int (nI (q)), .int (nI (i))] [] (S) 39 := by
  intro d
  induction d with
  | zero =>
    intro i S hi hM hA hf hz hr
    obtain rfl : i = k := by omega
    refine g_iload_n C dX8_fillBackward_39 rfl ?_
    refine g_aload_n C dX8_fillBackward_40 rfl ?_
    refine g_getI C fo_X8_15 dX8_fillBackward_41 hA.1 hA.2.1 (fun _ => rfl) hA.2.2.2.2.2.1 ?_
    refine n_ic_ge C 77 dX8_fillBackward_44 (fun h44 => ?_) (fun h44 => absurd h44 (by omega))
    exact kk S hM hA hf hz hr
  | succ d ih =>
    intro i S hi hM hA hf hz hr
    have hTi := hT (i * 3 + q) (by omega)
    have hp := pow64 (T (i * 3 + q)) (by omega)
    refine g_iload_n C dX8_fillBackward_39 rfl ?_
    refine g_aload_n C dX8_fillBackward_40 rfl ?_
    refine g_getI C fo_X8_15 dX8_fillBackward_41 hA.1 hA.2.1 (fun _ => rfl) hA.2.2.2.2.2.1 ?_
    refine n_ic_ge C 77 dX8_fillBackward_44 (fun h44 => absurd h44 (by omega)) (fun h44 => ?_)
    refine g_aload_n C dX8_fillBackward_47 rfl ?_
    refine g_getR C fo_X8_9 dX8_fillBackward_48 hM.1 hM.2.1 (fun _ => rfl) hM.2.2.2.2 ?_
    refine g_iload_n C dX8_fillBackward_51 rfl ?_
    refine n_bipush C 64 dX8_fillBackward_52 ?_
    refine n_imul C dX8_fillBackward_54 ?_
    refine n_iconst C 1 dX8_fillBackward_55 ?_
    refine g_aload_n C dX8_fillBackward_56 rfl ?_
    refine g_iload_n C dX8_fillBackward_57 rfl ?_
    refine g_iload_n C dX8_fillBackward_58 rfl ?_
    refine g_callV C (As := [.int (nI (i)), .int (nI (q))]) (c_X1_follow _ hA (by omega)) vo_X8_21 dX8_fillBackward_59 rfl hA.1 hA.2.1 rfl (rm_ok (M' := MX8_fillBackward) hR (by decide)) (Nat.le_of_ble_eq_true rfl) (fun v9 S9 h9 => ?_)
    obtain ⟨rfl, h9⟩ := h9
    refine g_S S h9 ?_
    refine g_n0 [.int (nI (T (i * 3 + q))), .int (nI (1)), .int (nI ((q) * (64))), .ref v] rfl rfl rfl ?_
    refine n_ishl C dX8_fillBackward_62 ?_ (by omega) (pow6 _ (by omega))
    refine n_iadd C dX8_fillBackward_63 ?_
    refine g_dup2 C dX8_fillBackward_64 rfl rfl ?_
    refine n_iald C dX8_fillBackward_65 hM.2.2.1 hM.2.2.2.1 (show mI S v (((q) * (64)) + ((1) * 2 ^ (T (i * 3 + q)))) = nI (bk T q i (T (i * 3 + q))) by rw [pow_one]; exact hz _ (by omega)) ?_ (by omega)
    refine n_iconst C 1 dX8_fillBackward_66 ?_
    refine g_iload_n C dX8_fillBackward_67 rfl ?_
    refine n_ishl C dX8_fillBackward_68 ?_ (by omega) (pow6 i (by omega))
    refine n_ior C dX8_fillBackward_69 ?_
    refine g_iast C dX8_fillBackward_70 hM.2.2.1 hM.2.2.2.1 (by omega) rfl ?_
    refine n_iinc C (by rw [hmL]; decide) dX8_fillBackward_71 rfl (n_i1 _) [.ref p, .ref a, .int (nI (q)), .int (nI (i + 1))] ?_
    refine g_goto C 39 dX8_fillBackward_74 (by decide) ?_
    refine ih (i + 1) _ (by omega) hM.keepI (hA.wIv hM) (hf.tr (FN.wI rfl)) (fun s hs => ?_) (fun j hj => ?_)
    · rw [mI_wI]
      by_cases e : s = T (i * 3 + q)
      · rw [e, pow_one, up_same, pow_one]
        show nI (bk T q i (T (i * 3 + q)) ||| 2 ^ i) = nI (bk T q i (T (i * 3 + q)) ||| (if T (i * 3 + q) = T (i * 3 + q) then 2 ^ i else 0))
        rw [if_pos rfl]
      · rw [va_up_ne _ _ (fun z => e (pow_inj6 s (by omega) _ (by omega) (by omega))), hz s hs]
        show nI (bk T q i s) = nI (bk T q i s ||| (if T (i * 3 + q) = s then 2 ^ i else 0))
        rw [if_neg (fun z => e z.symm), Nat.or_zero]
    · rw [mI_wI, va_up_ne _ _ (by omega)]
      exact hr j hj

set_option maxRecDepth 100000 in
theorem lp_X8_fillBackward_2 {x : Cx} (hR : xR x = MX8_fillBackward.rm) (hmL : (xc x).maxLocals = MX8_fillBackward.nL) (C : BX x cX8_fillBackward RX8) {p v a t k F : Nat} {T : Nat → Nat} {S0 : pv_M} (h6 : k ≤ 6) (hT : ∀ j, j < k * 3 → T j < k) (kk : ∀ S, SMAt S p v → AutoAt S a t k T F → FN (fun r => r = v) S0 S → (∀ m, m < 3 → ∀ Y, Y < 2 ^ k → mI S v (m * 64 + Y) = nI (un (bk T m k) Y)) → GG x 106 0 0 [.ref p, .ref a, .int (nI (3)), unk] [] (S) 92) : ∀ d q (S : pv_M), q + d = 3 → SMAt S p v → AutoAt S a t k T F → FN (fun r => r = v) S0 S → (∀ m, m < q → ∀ Y, Y < 2 ^ k → mI S v (m * 64 + Y) = nI (un (bk T m k) Y)) → GG x 106 0 0 [.ref p, .ref a, .int (nI (q)), unk] [] (S) 2 := by
  obtain ⟨hk1, hk2⟩ := pow_le6 k h6
  intro d
  induction d with
  | zero =>
    intro q S hi hM hA hf hz
    obtain rfl : q = 3 := by omega
    refine g_iload_n C dX8_fillBackward_2 rfl ?_
    refine n_iconst C 3 dX8_fillBackward_3 ?_
    refine n_ic_ge C 92 dX8_fillBackward_4 (fun h4 => ?_) (fun h4 => absurd h4 (by omega))
    exact kk S hM hA hf hz
  | succ d ih =>
    intro q S hi hM hA hf hz
    refine g_iload_n C dX8_fillBackward_2 rfl ?_
    refine n_iconst C 3 dX8_fillBackward_3 ?_
    refine n_ic_ge C 92 dX8_fillBackward_4 (fun h4 => absurd h4 (by omega)) (fun h4 => ?_)
    refine n_iconst C 0 dX8_fillBackward_7 ?_
    refine g_istore_n C (by rw [hmL]; decide) dX8_fillBackward_8 [.ref p, .ref a, .int (nI (q)), .int (nI (0))] rfl ?_
    refine lp_X8_fillBackward_9 hR hmL C (S0 := S) (by omega) h6 (fun j hj => by have := hT j hj; omega) (fun S0' hM0 hA0 hf0 hz0 hr0 => ?_) k 0 S (by omega) hM hA FN.rf (fun s hs => absurd hs (Nat.not_lt_zero s)) (fun j hj => rfl)
    refine n_iconst C 0 dX8_fillBackward_37 ?_
    refine g_istore_n C (by rw [hmL]; decide) dX8_fillBackward_38 [.ref p, .ref a, .int (nI q), .int (nI 0)] rfl ?_
    refine lp_X8_fillBackward_39 hR hmL C (S0 := S0') (by omega) h6 hT (fun S1 hM1 hA1 hf1 hz1 hr1 => ?_) k 0 S0' (by omega) hM0 hA0 FN.rf hz0 (fun j hj => rfl)
    refine g_aload_n C dX8_fillBackward_77 rfl ?_
    refine g_iload_n C dX8_fillBackward_78 rfl ?_
    refine g_aload_n C dX8_fillBackward_79 rfl ?_
    refine g_getI C fo_X8_15 dX8_fillBackward_80 hA1.1 hA1.2.1 (fun _ => rfl) hA1.2.2.2.2.2.1 ?_
    refine g_callV C (As := [.int (nI (q)), .int (nI (k))]) (c_X8_joinSingles (g := bk T q k) _ hM1 (by omega) h6 (fun s _ => bk_lt k s h6) hz1) vo_X8_25 dX8_fillBackward_83 rfl hM1.1 hM1.2.1 rfl (rm_ok (M' := MX8_fillBackward) hR (by decide)) (Nat.le_of_ble_eq_true rfl) (fun v9 S9 h9 => ?_)
    obtain ⟨rfl, hM2, hf2, hz2, hr2⟩ := h9
    refine g_n0 [] rfl rfl rfl ?_
    refine n_iinc C (by rw [hmL]; decide) dX8_fillBackward_86 rfl (n_i1 _) [.ref p, .ref a, .int (nI (q + 1)), .int (nI (k))] ?_
    refine g_goto C 2 dX8_fillBackward_89 (by decide) ?_
    refine g_less [.ref p, .ref a, .int (nI (q + 1)), unk] (fun i w hw => ?_) (ih (q + 1) S9 (by omega) hM2 (hA1.fv hM1 hf2) (hf.tr (hf0.tr (hf1.tr hf2))) (fun m hm Y hY => ?_))
    · match i, hw with
      | 0, hw => exact Or.inr hw
      | 1, hw => exact Or.inr hw
      | 2, hw => exact Or.inr hw
      | 3, hw => exact Or.inl (Option.some.inj hw).symm
    · by_cases e : m = q
      · subst e; exact hz2 Y hY
      · rw [hr2 _ (by omega), hr1 _ (by omega), hr0 _ (by omega)]
        exact hz m (by omega) Y hY

set_option maxRecDepth 100000 in
theorem c_X8_fillBackward (l : Launch) {p v a t k F : Nat} {T : Nat → Nat} {S : pv_M} (hM : SMAt S p v) (hA : AutoAt S a t k T F) (h6 : k ≤ 6) (hT : ∀ j, j < k * 3 → T j < k) : mt l MX8_fillBackward 106 [.ref p, .ref a] S (fun w S' => w = none ∧ SMAt S' p v ∧ FN (fun r => r = v) S S' ∧ (∀ m, m < 3 → ∀ Y, Y < 2 ^ k → mI S' v (m * 64 + Y) = nI (un (bk T m k) Y))) := by
  refine mt_of (by decide) (Nat.le_of_ble_eq_true rfl) ?_
  intro x hl hR hmL C E
  show GG x 106 0 0 [.ref p, .ref a, unk, unk] [] S 0
  refine n_iconst C 0 dX8_fillBackward_0 ?_
  refine g_istore_n C (by rw [hmL]; decide) dX8_fillBackward_1 [.ref p, .ref a, .int (nI (0)), unk] rfl ?_
  refine lp_X8_fillBackward_2 hR hmL C (S0 := S) h6 hT (fun S1 hM1 hA1 hf1 hz1 => ?_) 3 0 S (by omega) hM hA FN.rf (fun m hm => absurd hm (Nat.not_lt_zero m))
  exact g_vret C E dX8_fillBackward_92 (by rw [hR]; decide) (by rw [hR]; decide) ⟨rfl, hM1, hf1, hz1⟩
