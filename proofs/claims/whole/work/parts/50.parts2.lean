set_option maxRecDepth 100000 in
theorem bd_parts {x : Cx} (hR : xR x = MX12_parts.rm) (hmL : (xc x).maxLocals = MX12_parts.nL) (C : BX x cX12_parts RX12) {S0 S : pv_M} {k : Nat} {nx kd : Nat → Nat} {w w0 : Int32} (hG : Gk S k nx kd) (hw : mI S 75 29 = w) (hF : FQ k5 S0 S ∧ FN (fun r => r = 75 ∨ r = 93 ∨ r = 94) S0 S ∧ ∀ q, q ≠ 29 → mI S 75 q = mI S0 75 q) (kk : ∀ S', Gk S' k nx (krM k nx kd) → mI S' 75 29 = nI (foL (kvM kd nx) k).length → (FQ k5 S0 S' ∧ FN (fun r => r = 75 ∨ r = 93 ∨ r = 94) S0 S' ∧ ∀ q, q ≠ 29 → mI S' 75 q = mI S0 75 q) → GG x 106 0 0 [.ref 75, .int (w), unk, unk] [] (S') 49) : GG x 106 0 0 [.ref 75, .int (w0), unk, unk] [] (S) 57 := by
  have hk7 := hG.2.2.2.2.2.1
  refine g_aload_n C dX12_parts_57 rfl ?_
  refine g_getI C fo_X12_222 dX12_parts_58 rfl (by decide) (fun _ => rfl) hw ?_
  refine g_istore_n C (by rw [hmL]; decide) dX12_parts_61 [.ref 75, .int (w), unk, unk] rfl ?_
  refine g_aload_n C dX12_parts_62 rfl ?_
  refine n_iconst C 0 dX12_parts_63 ?_
  refine g_putI C fo_X12_222 dX12_parts_64 rfl (by decide) rfl ?_
  refine n_iconst C 0 dX12_parts_67 ?_
  refine g_istore_n C (by rw [hmL]; decide) dX12_parts_68 [.ref 75, .int (w), .int (nI (0)), unk] rfl ?_
  refine lp_parts_a hR hmL C (S0 := (wI S 75 (va_up (mI S 75) 29 (nI 0)))) hk7 (fun S2 hG2 hf2 hfn2 hs2 hc2 hd2 => ?_) k 0 _ (Nat.zero_add _) (hG.keep (hG.1.fn (FN.wI (P := mC) (by decide))) rfl rfl rfl) FQ.rf FN.rf (fun _ _ => rfl) rfl (fun j hj => absurd hj (Nat.not_lt_zero j))
  refine n_iconst C 0 dX12_parts_148 ?_
  refine g_istore_n C (by rw [hmL]; decide) dX12_parts_149 [.ref 75, .int w, .int (nI 0), unk] rfl ?_
  have h172 : mI S2 75 17 = nI k := hG2.2.2.2.2.2.2
  refine lp_parts_c hR hmL C (S0 := S2) hk7 h172 (fun S3 hS3 hf3 hd3 => ?_) k 0 S2 (Nat.zero_add _) hG2.1 FN.rf reg_0.symm
  refine g_goto C 49 dX12_parts_176 (by decide) ?_
  refine g_frg [.ref 75, .int w, unk, unk] ⟨Or.inr rfl, Or.inr rfl, Or.inl rfl, Or.inl rfl, trivial⟩ ?_
  have e75 : mI S3 75 = mI S2 75 := (hf3.2 75 (by decide)).1
  refine kk S3 ⟨hS3, fun p hp => by rw [(hf3.2 89 (by decide)).1]; exact hG2.2.1 p hp, hG.2.2.1, fun j hj => by rw [hd3, reg0 hj]; exact hd2 j hj, fun j hj => by have : krM k nx kd j < k := krM_lt hj; omega, hk7, by rw [e75]; exact h172⟩ (by rw [e75]; exact hc2) ⟨?_, ?_, fun q hq => ?_⟩
  · exact (hF.1.tr (FQ.w75 (by decide))).tr (hf2.tr ⟨hf3.mono (fun r h => by rw [h]; decide), fun q _ => congrFun e75 q, (hf3.2 75 (by decide)).2.1⟩)
  · exact (hF.2.1.tr (FN.wI (by decide))).tr ((hfn2.mono (fun r h => by rcases h with h | h; exact Or.inl h; exact Or.inr (Or.inr h))).tr (hf3.mono (fun r h => by rw [h]; decide)))
  · rw [e75, hs2 q hq]
    exact (rI_k hq rfl).trans (hF.2.2 q hq)

set_option maxRecDepth 100000 in
theorem wh_parts {x : Cx} (hR : xR x = MX12_parts.rm) (hmL : (xc x).maxLocals = MX12_parts.nL) (C : BX x cX12_parts RX12) {S0 : pv_M} {k : Nat} {nx : Nat → Nat} {ac : Nat → Bool} (hk7 : k ≤ 740) (hn : ∀ p, p < 3 * k → nx p < k) (kk : ∀ S r, ccM k nx ac (r + 1) = ccM k nx ac (r) → Gk S k nx (ksM k nx ac (r + 2)) → mI S 75 29 = nI (ccM k nx ac (r + 1)) → (FQ k5 S0 S ∧ FN (fun r => r = 75 ∨ r = 93 ∨ r = 94) S0 S ∧ ∀ q, q ≠ 29 → mI S 75 q = mI S0 75 q) → GG x 106 0 0 [.ref 75, .int (nI (ccM k nx ac (r))), unk, unk] [] (S) 179) : ∀ z r (S : pv_M), 741 ≤ ccM k nx ac (r) + z → Gk S k nx (ksM k nx ac (r + 2)) → mI S 75 29 = nI (ccM k nx ac (r + 1)) → (FQ k5 S0 S ∧ FN (fun r => r = 75 ∨ r = 93 ∨ r = 94) S0 S ∧ ∀ q, q ≠ 29 → mI S 75 q = mI S0 75 q) → GG x 106 0 0 [.ref 75, .int (nI (ccM k nx ac (r))), unk, unk] [] (S) 49 := by
  intro z
  induction z with
  | zero =>
    intro r S hz hG hc hF
    have := ccM_le (k := k) (nx := nx) (ac := ac) r
    omega
  | succ z ih =>
    intro r S hz hG hc hF
    have h1 := ccM_le (k := k) (nx := nx) (ac := ac) r
    have h2 := ccM_le (k := k) (nx := nx) (ac := ac) (r + 1)
    have hmo := ccM_mono (ac := ac) hk7 hn r
    refine g_aload_n C dX12_parts_49 rfl ?_
    refine g_getI C fo_X12_222 dX12_parts_50 rfl (by decide) (fun _ => rfl) hc ?_
    refine g_iload_n C dX12_parts_53 rfl ?_
    refine n_ic_eq C 179 dX12_parts_54 (fun h54 => ?_) (fun h54 => ?_)
    · exact kk S r h54 hG hc hF
    · refine bd_parts hR hmL C (S0 := S0) hG hc hF (fun S' hG' hc' hF' => ?_)
      exact ih (r + 1) S' (by omega) hG' hc' hF'

set_option maxRecDepth 100000 in
theorem lp_parts_0 {x : Cx} (hR : xR x = MX12_parts.rm) (hmL : (xc x).maxLocals = MX12_parts.nL) (C : BX x cX12_parts RX12) {S0 : pv_M} {k : Nat} {ac : Nat → Bool} (hk7 : k ≤ 740) (h17 : mI S0 75 17 = nI k) (hE : ∀ j, j < k → mI S0 90 j = bI (ac j)) (kk : ∀ S : pv_M, GS S → FN (fun r => r = 93) S0 S → mI S 93 = reg 0 k (fun j => nI (kd0 ac j)) (mI S0 93) → GG x 106 0 0 [.ref 75, .int (nI (k)), unk, unk] [] (S) 42) : ∀ z i (S : pv_M), i + z = k → GS S → FN (fun r => r = 93) S0 S → mI S 93 = reg 0 i (fun j => nI (kd0 ac j)) (mI S0 93) → GG x 106 0 0 [.ref 75, .int (nI (i)), unk, unk] [] (S) 2 := by
  intro z
  induction z with
  | zero =>
    intro i S hz hS hf hd
    obtain rfl : k = i := by omega
    refine g_iload_n C dX12_parts_2 rfl ?_
    refine g_aload_n C dX12_parts_3 rfl ?_
    refine g_getI C fo_X12_153 dX12_parts_4 rfl (by decide) (fun _ => rfl) ((congrFun (hf.2 75 (by decide)).1 17).trans h17) ?_
    refine n_ic_ge C 42 dX12_parts_7 (fun h7 => ?_) (fun h7 => absurd h7 (by omega))
    exact kk S hS hf hd
  | succ z ih =>
    intro i S hz hS hf hd
    refine g_iload_n C dX12_parts_2 rfl ?_
    refine g_aload_n C dX12_parts_3 rfl ?_
    refine g_getI C fo_X12_153 dX12_parts_4 rfl (by decide) (fun _ => rfl) ((congrFun (hf.2 75 (by decide)).1 17).trans h17) ?_
    refine n_ic_ge C 42 dX12_parts_7 (fun h7 => absurd h7 (by omega)) (fun h7 => ?_)
    refine g_aload_n C dX12_parts_10 rfl ?_
    refine g_getR C fo_X12_65 dX12_parts_11 rfl (by decide) (fun _ => rfl) (gs_75_27 hS) ?_
    refine g_iload_n C dX12_parts_14 rfl ?_
    refine g_aload_n C dX12_parts_15 rfl ?_
    refine g_getR C fo_X12_56 dX12_parts_16 rfl (by decide) (fun _ => rfl) (gs_75_20 hS) ?_
    refine g_iload_n C dX12_parts_19 rfl ?_
    refine n_zald C dX12_parts_20 rfl (by decide) ((congrFun (hf.2 90 (by decide)).1 _).trans (hE _ (by omega))) ?_ (by omega)
    refine g_aload_n C dX12_parts_21 rfl ?_
    refine g_getR C fo_X12_56 dX12_parts_22 rfl (by decide) (fun _ => rfl) (gs_75_20 hS) ?_
    refine n_iconst C 0 dX12_parts_25 ?_
    refine n_zald C dX12_parts_26 rfl (by decide) ((congrFun (hf.2 90 (by decide)).1 _).trans (hE _ (by omega))) ?_ (by omega)
    suffices K35 : GG x 106 0 0 [.ref 75, .int (nI (i)), unk, unk] [.int (nI (kd0 ac i)), .int (nI (i)), .ref 93] S 35 from by
      refine g_ic_ne C 34 dX12_parts_27 (by decide) (fun h27 => ?_) (fun h27 => ?_)
      · refine n_iconst C 1 dX12_parts_34 ?_
        rw [show kd0 ac i = 1 from if_neg (fun e => h27 (by rw [e]))] at K35; exact K35
      · refine n_iconst C 0 dX12_parts_30 ?_
        refine g_goto C 35 dX12_parts_31 (by decide) ?_
        rw [show kd0 ac i = 0 from if_pos (bI_inj.mp h27)] at K35; exact K35
    refine g_iast C dX12_parts_35 rfl (by decide) (by omega) rfl ?_
    refine n_iinc C (by rw [hmL]; decide) dX12_parts_36 rfl (n_i1 _) [.ref 75, .int (nI (i + 1)), unk, unk] ?_
    refine g_goto C 2 dX12_parts_39 (by decide) ?_
    exact ih (i + 1) _ (by omega) (hS.fn (FN.wI (P := fun r => r = 93) rfl)) (hf.tr (FN.wI rfl)) (reg_I hd (by omega) rfl)

set_option maxRecDepth 100000 in
theorem k_parts (l : Launch) {S : pv_M} {k : Nat} {nx : Nat → Nat} {ac : Nat → Bool} (hS : GS S) (h17 : mI S 75 17 = nI k) (hk7 : k ≤ 740) (hnx : ∀ p, p < 3 * k → mI S 89 p = nI (nx p)) (hn : ∀ p, p < 3 * k → nx p < k) (hE : ∀ j, j < k → mI S 90 j = bI (ac j)) : mt l MX12_parts 106 [.ref 75] S (fun v S' => v = none ∧ ∃ r, ccM k nx ac (r + 1) = ccM k nx ac (r) ∧ Gk S' k nx (ksM k nx ac (r + 2)) ∧ mI S' 75 29 = nI (ccM k nx ac (r + 1)) ∧ FQ k5 S S' ∧ FN (fun r => r = 75 ∨ r = 93 ∨ r = 94) S S' ∧ ∀ q, q ≠ 29 → mI S' 75 q = mI S 75 q) := by
  refine mt_of (by decide) (Nat.le_of_ble_eq_true rfl) ?_
  intro x hl hR hmL C E
  show GG x 106 0 0 [.ref 75, unk, unk, unk] [] S 0
  refine n_iconst C 0 dX12_parts_0 ?_
  refine g_istore_n C (by rw [hmL]; decide) dX12_parts_1 [.ref 75, .int (nI (0)), unk, unk] rfl ?_
  refine lp_parts_0 hR hmL C (S0 := S) hk7 h17 hE (fun S1 hS1 hf1 hd1 => ?_) k 0 S (Nat.zero_add _) hS FN.rf reg_0.symm
  refine n_iconst C 0 dX12_parts_42 ?_
  refine g_istore_n C (by rw [hmL]; decide) dX12_parts_43 [.ref 75, .int (nI 0), unk, unk] rfl ?_
  refine g_aload_n C dX12_parts_44 rfl ?_
  refine g_iconst C (-1) dX12_parts_45 (by decide) ?_
  refine g_putI C fo_X12_222 dX12_parts_46 rfl (by decide) rfl ?_
  have e75 : mI S1 75 = mI S 75 := (hf1.2 75 (by decide)).1
  have e89 : mI S1 89 = mI S 89 := (hf1.2 89 (by decide)).1
  have hG0 : Gk (wI S1 75 (va_up (mI S1 75) 29 (-1))) k nx (ksM k nx ac 0) := ⟨hS1.fn (FN.wI (P := mC) (by decide)), fun p hp => by show mI S1 89 p = _; rw [e89]; exact hnx p hp, hn, fun j hj => by show mI S1 93 j = _; rw [hd1, reg0 hj]; rfl, ksM_lt hk7 0, hk7, by show mI S1 75 17 = _; rw [e75]; exact h17⟩
  have hF0 : FQ k5 S (wI S1 75 (va_up (mI S1 75) 29 (-1))) ∧ FN (fun r => r = 75 ∨ r = 93 ∨ r = 94) S (wI S1 75 (va_up (mI S1 75) 29 (-1))) ∧ ∀ q, q ≠ 29 → mI (wI S1 75 (va_up (mI S1 75) 29 (-1))) 75 q = mI S 75 q := ⟨FQ.tr ⟨hf1.mono (fun r h => by rw [h]; decide), fun q _ => congrFun e75 q, (hf1.2 75 (by decide)).2.1⟩ (FQ.w75 (by decide)), (hf1.mono (fun r h => by rw [h]; decide)).tr (FN.wI (by decide)), fun q hq => (rI_k hq rfl).trans (congrFun e75 q)⟩
  refine g_aload_n C dX12_parts_49 rfl ?_
  refine g_getI C (a := -1) fo_X12_222 dX12_parts_50 rfl (by decide) (fun _ => rfl) rfl ?_
  refine g_iload_n C dX12_parts_53 rfl ?_
  refine g_ic_eq C 179 dX12_parts_54 (by decide) (fun h => absurd h (by decide)) (fun _ => ?_)
  refine bd_parts hR hmL C (S0 := S) (w := -1) hG0 rfl hF0 (fun S2 hG2 hc2 hF2 => ?_)
  have hc2' : mI S2 75 29 = nI (ccM k nx ac 0) := hc2
  have hG2' : Gk S2 k nx (ksM k nx ac 1) := hG2
  refine g_aload_n C dX12_parts_49 rfl ?_
  refine g_getI C fo_X12_222 dX12_parts_50 rfl (by decide) (fun _ => rfl) hc2' ?_
  refine g_iload_n C dX12_parts_53 rfl ?_
  have hle := ccM_le (k := k) (nx := nx) (ac := ac) 0
  refine g_ic_eq C 179 dX12_parts_54 (by decide) (fun h => absurd h (nI_nm1 (by omega))) (fun _ => ?_)
  refine bd_parts hR hmL C (S0 := S) hG2' hc2' hF2 (fun S3 hG3 hc3 hF3 => ?_)
  refine wh_parts hR hmL C (S0 := S) (ac := ac) hk7 hn (fun S4 r e hG4 hc4 hF4 => ?_) 741 0 S3 (by omega) hG3 hc3 hF3
  exact g_vret C E dX12_parts_179 (by rw [hR]; decide) (by rw [hR]; decide) ⟨rfl, r, e, hG4, hc4, hF4⟩
