abbrev rTF : Nat → Prop := fun r => r = 77 ∨ r = 78
/-- what is stored: the minimal automaton -/
abbrev cM (δ : Nat → Nat → Nat) (acc : Nat → Bool) (R : List Nat) : Nat := cF R.length (nxt δ R) (fun i => acc (R.getD i 0))
abbrev kM_ (δ : Nat → Nat → Nat) (acc : Nat → Bool) (R : List Nat) : Nat → Nat := kdF R.length (nxt δ R) (fun i => acc (R.getD i 0))
theorem Gk.fn {P : Nat → Prop} {S T : pv_M} {k : Nat} {nx kd : Nat → Nat} (h : Gk S k nx kd) (f : FN P S T) (h75 : ¬ P 75) (h89 : ¬ P 89) (h93 : ¬ P 93) : Gk T k nx kd := h.keep (h.1.fn f) (f.2 89 h89).1 (f.2 93 h93).1 (congrFun (f.2 75 h75).1 17)

set_option maxRecDepth 100000 in
theorem lq_stores {x : Cx} (hR : xR x = MX12_stores.rm) (hmL : (xc x).maxLocals = MX12_stores.nL) (C : BX x cX12_stores RX12) {S0 : pv_M} {t k c : Nat} {nx kd : Nat → Nat} {ac : Nat → Bool} (ht : t < 3) (hG : Gk S0 k nx kd) (hE : ∀ i, i < k → mI S0 90 i = bI (ac i)) (hc6 : c ≤ 6) {s m : Nat} {g8 : Nat → Int32} (hs : s < c) (hm : m < k) (hfm : fi kd k s = m) (kk : ∀ S : pv_M, GS S → FN rTF S0 S → mI S 77 = reg (18 * t) (3 * s + 3) (fun j => nI (mnT k nx kd c j)) (mI S0 77) → mI S 78 = g8 → GG x 106 0 0 [.ref 75, .int (nI (t)), .int (nI (c)), .int (nI (s)), .int (nI (m)), .int (nI (3))] [] (S) 81) : ∀ z i (S : pv_M), i + z = 3 → GS S → FN rTF S0 S → mI S 77 = reg (18 * t) (3 * s + i) (fun j => nI (mnT k nx kd c j)) (mI S0 77) → mI S 78 = g8 → GG x 106 0 0 [.ref 75, .int (nI (t)), .int (nI (c)), .int (nI (s)), .int (nI (m)), .int (nI (i))] [] (S) 40 := by
  intro z
  induction z with
  | zero =>
    intro i S hz hS hf h7 h8
    obtain rfl : 3 = i := by omega
    refine g_iload C dX12_stores_40 rfl ?_
    refine n_iconst C 3 dX12_stores_42 ?_
    refine n_ic_ge C 81 dX12_stores_43 (fun h43 => ?_) (fun h43 => absurd h43 (by omega))
    exact kk S hS hf h7 h8
  | succ z ih =>
    intro i S hz hS hf h7 h8
    have hnm := hG.2.2.1 (m * 3 + i) (by omega)
    have hk7 := hG.2.2.2.2.2.1
    refine g_iload C dX12_stores_40 rfl ?_
    refine n_iconst C 3 dX12_stores_42 ?_
    refine n_ic_ge C 81 dX12_stores_43 (fun h43 => absurd h43 (by omega)) (fun h43 => ?_)
    refine g_aload_n C dX12_stores_46 rfl ?_
    refine g_getR C fo_X12_13 dX12_stores_47 rfl (by decide) (fun _ => rfl) (gs_75_2 hS) ?_
    refine g_iload_n C dX12_stores_50 rfl ?_
    refine g_iload_n C dX12_stores_51 rfl ?_
    refine g_iload C dX12_stores_52 rfl ?_
    refine g_callS C (k_place _) so_X12_110 dX12_stores_54 rfl rfl (rm_ok (M' := MX12_stores) hR (by decide)) (Nat.le_of_ble_eq_true rfl) (fun v9 S9 h9 => ?_)
    obtain ⟨rfl, h9⟩ := h9
    refine g_S S h9 ?_
    refine g_n0 [.int (nI (18 * t + 3 * s + i)), .ref 77] rfl rfl rfl ?_
    refine g_aload_n C dX12_stores_57 rfl ?_
    refine g_getR C fo_X12_65 dX12_stores_58 rfl (by decide) (fun _ => rfl) (gs_75_27 hS) ?_
    refine g_aload_n C dX12_stores_61 rfl ?_
    refine g_getR C fo_X12_53 dX12_stores_62 rfl (by decide) (fun _ => rfl) (gs_75_19 hS) ?_
    refine n_iconst C 3 dX12_stores_65 ?_
    refine g_iload C dX12_stores_66 rfl ?_
    refine n_imul C dX12_stores_68 ?_
    refine g_iload C dX12_stores_69 rfl ?_
    refine n_iadd C dX12_stores_71 ?_
    refine n_iald C dX12_stores_72 rfl (by decide) ((congrFun (hf.2 89 (by decide)).1 _).trans (hG.nx (a := m) (q := i) (by omega) (by omega) rfl)) ?_ (by omega)
    refine n_iald C dX12_stores_73 rfl (by decide) ((congrFun (hf.2 93 (by decide)).1 _).trans (hG.kx (a := m) (q := i) (by omega) (by omega))) ?_ (by omega)
    refine g_iast C dX12_stores_74 rfl (by decide) (by omega) rfl ?_
    refine n_iinc C (by rw [hmL]; decide) dX12_stores_75 rfl (n_i1 _) [.ref 75, .int (nI (t)), .int (nI (c)), .int (nI (s)), .int (nI (m)), .int (nI (i + 1))] ?_
    refine g_goto C 40 dX12_stores_78 (by decide) ?_
    refine ih (i + 1) _ (by omega) (hS.fn (FN.wI (P := rTF) (by decide))) (hf.tr (FN.wI (by decide))) (reg_I (i := 3 * s + i) h7 (by omega) ?_) h8
    show _ = nI (mnT k nx kd c (3 * s + i))
    unfold mnT
    rw [show (3 * s + i) / 3 = s by omega, show (3 * s + i) % 3 = i by omega, if_pos hs, hfm]

set_option maxRecDepth 100000 in
theorem lp_stores {x : Cx} (hR : xR x = MX12_stores.rm) (hmL : (xc x).maxLocals = MX12_stores.nL) (C : BX x cX12_stores RX12) {S0 : pv_M} {t k c : Nat} {nx kd : Nat → Nat} {ac : Nat → Bool} (ht : t < 3) (hG : Gk S0 k nx kd) (hE : ∀ i, i < k → mI S0 90 i = bI (ac i)) (hc6 : c ≤ 6) (hfi : ∀ q, q < c → fi kd k q < k ∧ kd (fi kd k q) = q ∧ ∀ j, j < fi kd k q → kd j ≠ q) (kk : ∀ S : pv_M, GS S → FN rTF S0 S → mI S 77 = reg (18 * t) (3 * (c)) (fun j => nI (mnT k nx kd c j)) (mI S0 77) → mI S 78 = reg (6 * t) (c) (fun q => bI (decide (q < c) && ac (fi kd k q))) (mI S0 78) → GG x 106 0 0 [.ref 75, .int (nI (t)), .int (nI (c)), .int (nI (c)), unk, unk] [] (S) 87) : ∀ z i (S : pv_M), i + z = c → GS S → FN rTF S0 S → mI S 77 = reg (18 * t) (3 * (i)) (fun j => nI (mnT k nx kd c j)) (mI S0 77) → mI S 78 = reg (6 * t) (i) (fun q => bI (decide (q < c) && ac (fi kd k q))) (mI S0 78) → GG x 106 0 0 [.ref 75, .int (nI (t)), .int (nI (c)), .int (nI (i)), unk, unk] [] (S) 7 := by
  intro z
  induction z with
  | zero =>
    intro i S hz hS hf h7 h8
    obtain rfl : c = i := by omega
    refine g_iload_n C dX12_stores_7 rfl ?_
    refine g_iload_n C dX12_stores_8 rfl ?_
    refine n_ic_ge C 87 dX12_stores_9 (fun h9 => ?_) (fun h9 => absurd h9 (by omega))
    exact kk S hS hf h7 h8
  | succ z ih =>
    intro i S hz hS hf h7 h8
    have hm := hfi i (by omega)
    have hm1 := hm.1
    have hk7 := hG.2.2.2.2.2.1
    refine g_iload_n C dX12_stores_7 rfl ?_
    refine g_iload_n C dX12_stores_8 rfl ?_
    refine n_ic_ge C 87 dX12_stores_9 (fun h9 => absurd h9 (by omega)) (fun h9 => ?_)
    refine g_aload_n C dX12_stores_12 rfl ?_
    refine g_iload_n C dX12_stores_13 rfl ?_
    refine g_callV C (As := [.int (nI (i))]) (k_nodeOfClass _ (hG.fn hf (by decide) (by decide) (by decide)) hm.1 hm.2.1 hm.2.2) vo_X12_228 dX12_stores_14 rfl rfl (by decide) rfl (rm_ok (M' := MX12_stores) hR (by decide)) (Nat.le_of_ble_eq_true rfl) (fun v9 S9 h9 => ?_)
    obtain ⟨rfl, h9⟩ := h9
    refine g_S S h9 ?_
    refine g_n0 [.int (nI (fi kd k i))] rfl rfl rfl ?_
    refine g_istore C (by rw [hmL]; decide) dX12_stores_17 [.ref 75, .int (nI (t)), .int (nI (c)), .int (nI (i)), .int (nI (fi kd k i)), unk] rfl ?_
    refine g_aload_n C dX12_stores_19 rfl ?_
    refine g_getR C fo_X12_16 dX12_stores_20 rfl (by decide) (fun _ => rfl) (gs_75_3 hS) ?_
    refine n_bipush C 6 dX12_stores_23 ?_
    refine g_iload_n C dX12_stores_25 rfl ?_
    refine n_imul C dX12_stores_26 ?_
    refine g_iload_n C dX12_stores_27 rfl ?_
    refine n_iadd C dX12_stores_28 ?_
    refine g_aload_n C dX12_stores_29 rfl ?_
    refine g_getR C fo_X12_56 dX12_stores_30 rfl (by decide) (fun _ => rfl) (gs_75_20 hS) ?_
    refine g_iload C dX12_stores_33 rfl ?_
    refine n_zald C dX12_stores_35 rfl (by decide) ((congrFun (hf.2 90 (by decide)).1 _).trans (hE (fi kd k i) (by omega))) ?_ (by omega)
    refine g_zast C dX12_stores_36 rfl (by decide) (by omega) rfl (bI_nar _) ?_
    refine n_iconst C 0 dX12_stores_37 ?_
    refine g_istore C (by rw [hmL]; decide) dX12_stores_38 [.ref 75, .int (nI (t)), .int (nI (c)), .int (nI (i)), .int (nI (fi kd k i)), .int (nI (0))] rfl ?_
    refine lq_stores hR hmL C ht hG hE hc6 (s := i) (m := fi kd k i) (by omega) hm.1 rfl (fun S2 hS2 hf2 h72 h82 => ?_) 3 0 _ rfl (hS.fn (FN.wI (P := rTF) (by decide))) (hf.tr (FN.wI (by decide))) h7 (reg_I h8 (by omega) (by rw [decide_eq_true (show i < c by omega), Bool.true_and]))
    refine n_iinc C (by rw [hmL]; decide) dX12_stores_81 rfl (n_i1 _) [.ref 75, .int (nI (t)), .int (nI (c)), .int (nI (i + 1)), .int (nI (fi kd k i)), .int (nI (3))] ?_
    refine g_goto C 7 dX12_stores_84 (by decide) ?_
    refine g_frg [.ref 75, .int (nI (t)), .int (nI (c)), .int (nI (i + 1)), unk, unk] ⟨Or.inr rfl, Or.inr rfl, Or.inr rfl, Or.inr rfl, Or.inl rfl, Or.inl rfl, trivial⟩ ?_
    exact ih (i + 1) S2 (by omega) hS2 hf2 h72 h82
    

set_option maxRecDepth 100000 in
theorem lu_stores {x : Cx} (hR : xR x = MX12_stores.rm) (hmL : (xc x).maxLocals = MX12_stores.nL) (C : BX x cX12_stores RX12) {S0 : pv_M} {t k c : Nat} {nx kd : Nat → Nat} {s : Nat} {g8 : Nat → Int32} (ht : t < 3) (hs : s < 6) (hc : c ≤ s) (kk : ∀ S : pv_M, GS S → FN rTF S0 S → mI S 77 = reg (18 * t) (3 * s + 3) (fun j => nI (mnT k nx kd c j)) (mI S0 77) → mI S 78 = g8 → GG x 106 0 0 [.ref 75, .int (nI (t)), .int (nI (c)), .int (nI (s)), .int (nI (3)), unk] [] (S) 135) : ∀ z i (S : pv_M), i + z = 3 → GS S → FN rTF S0 S → mI S 77 = reg (18 * t) (3 * s + i) (fun j => nI (mnT k nx kd c j)) (mI S0 77) → mI S 78 = g8 → GG x 106 0 0 [.ref 75, .int (nI (t)), .int (nI (c)), .int (nI (s)), .int (nI (i)), unk] [] (S) 110 := by
  intro z
  induction z with
  | zero =>
    intro i S hz hS hf h7 h8
    obtain rfl : 3 = i := by omega
    refine g_iload C dX12_stores_110 rfl ?_
    refine n_iconst C 3 dX12_stores_112 ?_
    refine n_ic_ge C 135 dX12_stores_113 (fun h113 => ?_) (fun h113 => absurd h113 (by omega))
    exact kk S hS hf h7 h8
  | succ z ih =>
    intro i S hz hS hf h7 h8
    refine g_iload C dX12_stores_110 rfl ?_
    refine n_iconst C 3 dX12_stores_112 ?_
    refine n_ic_ge C 135 dX12_stores_113 (fun h113 => absurd h113 (by omega)) (fun h113 => ?_)
    refine g_aload_n C dX12_stores_116 rfl ?_
    refine g_getR C fo_X12_13 dX12_stores_117 rfl (by decide) (fun _ => rfl) (gs_75_2 hS) ?_
    refine g_iload_n C dX12_stores_120 rfl ?_
    refine g_iload_n C dX12_stores_121 rfl ?_
    refine g_iload C dX12_stores_122 rfl ?_
    refine g_callS C (k_place _) so_X12_110 dX12_stores_124 rfl rfl (rm_ok (M' := MX12_stores) hR (by decide)) (Nat.le_of_ble_eq_true rfl) (fun v9 S9 h9 => ?_)
    obtain ⟨rfl, h9⟩ := h9
    refine g_S S h9 ?_
    refine g_n0 [.int (nI (18 * t + 3 * s + i)), .ref 77] rfl rfl rfl ?_
    refine n_iconst C 0 dX12_stores_127 ?_
    refine g_iast C dX12_stores_128 rfl (by decide) (by omega) rfl ?_
    refine n_iinc C (by rw [hmL]; decide) dX12_stores_129 rfl (n_i1 _) [.ref 75, .int (nI (t)), .int (nI (c)), .int (nI (s)), .int (nI (i + 1)), unk] ?_
    refine g_goto C 110 dX12_stores_132 (by decide) ?_
    refine ih (i + 1) _ (by omega) (hS.fn (FN.wI (P := rTF) (by decide))) (hf.tr (FN.wI (by decide))) (reg_I (i := 3 * s + i) h7 (by omega) ?_) h8
    show _ = nI (mnT k nx kd c (3 * s + i))
    unfold mnT
    rw [if_neg (by omega)]

set_option maxRecDepth 100000 in
theorem lv_stores {x : Cx} (hR : xR x = MX12_stores.rm) (hmL : (xc x).maxLocals = MX12_stores.nL) (C : BX x cX12_stores RX12) {S0 : pv_M} {t k c m6 : Nat} {nx kd : Nat → Nat} {ac : Nat → Bool} (ht : t < 3) (h6 : c + m6 = 6) (kk : ∀ S : pv_M, GS S → FN rTF S0 S → mI S 77 = reg (18 * t) (3 * (c + m6)) (fun j => nI (mnT k nx kd c j)) (mI S0 77) → mI S 78 = reg (6 * t) (c + m6) (fun q => bI (decide (q < c) && ac (fi kd k q))) (mI S0 78) → GG x 106 0 0 [.ref 75, .int (nI (t)), .int (nI (c)), .int (nI (c + m6)), unk, unk] [] (S) 141) : ∀ z i (S : pv_M), i + z = m6 → GS S → FN rTF S0 S → mI S 77 = reg (18 * t) (3 * (c + i)) (fun j => nI (mnT k nx kd c j)) (mI S0 77) → mI S 78 = reg (6 * t) (c + i) (fun q => bI (decide (q < c) && ac (fi kd k q))) (mI S0 78) → GG x 106 0 0 [.ref 75, .int (nI (t)), .int (nI (c)), .int (nI (c + i)), unk, unk] [] (S) 89 := by
  intro z
  induction z with
  | zero =>
    intro i S hz hS hf h7 h8
    obtain rfl : m6 = i := by omega
    refine g_iload_n C dX12_stores_89 rfl ?_
    refine n_bipush C 6 dX12_stores_90 ?_
    refine n_ic_ge C 141 dX12_stores_92 (fun h92 => ?_) (fun h92 => absurd h92 (by omega))
    exact kk S hS hf h7 h8
  | succ z ih =>
    intro i S hz hS hf h7 h8
    refine g_iload_n C dX12_stores_89 rfl ?_
    refine n_bipush C 6 dX12_stores_90 ?_
    refine n_ic_ge C 141 dX12_stores_92 (fun h92 => absurd h92 (by omega)) (fun h92 => ?_)
    refine g_aload_n C dX12_stores_95 rfl ?_
    refine g_getR C fo_X12_16 dX12_stores_96 rfl (by decide) (fun _ => rfl) (gs_75_3 hS) ?_
    refine n_bipush C 6 dX12_stores_99 ?_
    refine g_iload_n C dX12_stores_101 rfl ?_
    refine n_imul C dX12_stores_102 ?_
    refine g_iload_n C dX12_stores_103 rfl ?_
    refine n_iadd C dX12_stores_104 ?_
    refine n_iconst C 0 dX12_stores_105 ?_
    refine g_zast C dX12_stores_106 rfl (by decide) (by omega) rfl rfl ?_
    refine n_iconst C 0 dX12_stores_107 ?_
    refine g_istore C (by rw [hmL]; decide) dX12_stores_108 [.ref 75, .int (nI (t)), .int (nI (c)), .int (nI (c + i)), .int (nI (0)), unk] rfl ?_
    refine lu_stores hR hmL C (S0 := S0) (k := k) (nx := nx) (kd := kd) ht (s := c + i) (by omega) (by omega) (fun S2 hS2 hf2 h72 h82 => ?_) 3 0 _ rfl (hS.fn (FN.wI (P := rTF) (by decide))) (hf.tr (FN.wI (by decide))) h7 (reg_I h8 (by omega) (by rw [decide_eq_false (show ¬ c + i < c by omega), Bool.false_and]; rfl))
    refine n_iinc C (by rw [hmL]; decide) dX12_stores_135 rfl (n_i1 _) [.ref 75, .int (nI (t)), .int (nI (c)), .int (nI (c + i + 1)), .int (nI (3)), unk] ?_
    refine g_goto C 89 dX12_stores_138 (by decide) ?_
    refine g_frg [.ref 75, .int (nI (t)), .int (nI (c)), .int (nI (c + i + 1)), unk, unk] ⟨Or.inr rfl, Or.inr rfl, Or.inr rfl, Or.inr rfl, Or.inl rfl, Or.inl rfl, trivial⟩ ?_
    exact ih (i + 1) S2 (by omega) hS2 hf2 h72 h82
    

set_option maxRecDepth 100000 in
theorem k_stores (l : Launch) {S : pv_M} {A : Ab} {t k c : Nat} {nx kd : Nat → Nat} {ac : Nat → Bool} (hM : MSt S A) (ht : t < 3) (hG : Gk S k nx kd) (hE : ∀ i, i < k → mI S 90 i = bI (ac i)) (hc6 : c ≤ 6) (hcl : mI S 75 29 = nI c) (hfi : ∀ q, q < c → fi kd k q < k ∧ kd (fi kd k q) = q ∧ ∀ j, j < fi kd k q → kd j ≠ q) : mt l MX12_stores 106 [.ref 75, .int (nI (t))] S (fun v S' => v = some (.int (nI c)) ∧ mI S' 75 0 = nI 0 ∧ FN mC S S' ∧ ∀ F', (∀ q, q < 6 → Nat.testBit F' q = (decide (q < c) && ac (fi kd k q))) → MSt S' (setR A t (c, mnT k nx kd c, F'))) := by
  refine mt_of (by decide) (Nat.le_of_ble_eq_true rfl) ?_
  intro x hl hR hmL C E
  show GG x 106 0 0 [.ref 75, .int (nI (t)), unk, unk, unk, unk] [] S 0
  have hS := hG.1
  refine g_aload_n C dX12_stores_0 rfl ?_
  refine g_getI C fo_X12_222 dX12_stores_1 rfl (by decide) (fun _ => rfl) hcl ?_
  refine g_istore_n C (by rw [hmL]; decide) dX12_stores_4 [.ref 75, .int (nI (t)), .int (nI (c)), unk, unk, unk] rfl ?_
  refine n_iconst C 0 dX12_stores_5 ?_
  refine g_istore_n C (by rw [hmL]; decide) dX12_stores_6 [.ref 75, .int (nI (t)), .int (nI (c)), .int (nI (0)), unk, unk] rfl ?_
  refine lp_stores hR hmL C (S0 := S) ht hG hE hc6 hfi (fun S2 hS2 hf2 h72 h82 => ?_) c 0 S (Nat.zero_add _) hS FN.rf reg_0.symm reg_0.symm
  refine g_iload_n C dX12_stores_87 rfl ?_
  refine g_istore_n C (by rw [hmL]; decide) dX12_stores_88 [.ref 75, .int (nI t), .int (nI c), .int (nI (c + 0)), unk, unk] rfl ?_
  refine lv_stores hR hmL C (S0 := S) (k := k) (nx := nx) (kd := kd) (ac := ac) ht (show c + (6 - c) = 6 by omega) (fun S3 hS3 hf3 h73 h83 => ?_) (6 - c) 0 S2 (Nat.zero_add _) hS2 hf2 h72 h82
  rw [show c + (6 - c) = 6 by omega] at h73 h83
  refine g_aload_n C dX12_stores_141 rfl ?_
  refine g_getR C fo_X12_7 dX12_stores_142 rfl (by decide) (fun _ => rfl) (gs_75_1 hS3) ?_
  refine g_iload_n C dX12_stores_145 rfl ?_
  refine g_iload_n C dX12_stores_146 rfl ?_
  refine g_iast C dX12_stores_147 rfl (by decide) ht rfl ?_
  refine g_aload_n C dX12_stores_148 rfl ?_
  refine g_iload_n C dX12_stores_149 rfl ?_
  refine g_callV C (As := [.int (nI c)]) (k_done _ (hS3.fn (FN.wI (P := mC) (by decide)))) vo_X12_132 dX12_stores_150 rfl rfl (by decide) rfl (rm_ok (M' := MX12_stores) hR (by decide)) (Nat.le_of_ble_eq_true rfl) (fun v9 S9 h9 => ?_)
  obtain ⟨rfl, h9⟩ := h9
  subst h9
  refine g_n0 [.int (nI c)] rfl rfl rfl ?_
  refine g_iret C E dX12_stores_153 (by rw [hR]; decide) (by rw [hR]; decide) ⟨rfl, th_0, ((hf3.mono (fun r h => by rcases h with rfl | rfl <;> decide)).tr (FN.wI (by decide))).tr th_fs.mC, fun F' hF => ?_⟩
  have e76 : mI S3 76 = mI S 76 := (hf3.2 76 (by decide)).1
  refine (hM.set (S' := wI S3 76 (va_up (mI S3 76) t (nI c))) (hM.1.set (m := c) (T := mnT k nx kd c) (F := F') ht (fun j hj => by rw [mI_wI, va_up_ne _ _ hj, e76]) (by rw [mI_wI, up_same]) (fun p hp => by show mI S3 77 p = _; rw [h73]; exact reg_out (by omega)) (fun i hi => by show mI S3 77 _ = _; rw [h73]; exact reg_in (by omega) rfl) (fun p hp => by show mI S3 78 p = _; rw [h83]; exact reg_out (by omega)) (fun i hi => by show mI S3 78 _ = _; rw [h83, hF i hi]; exact reg_in (by omega) rfl)) ((hf3.mono (fun r h => Or.inr h)).tr (FN.wI (by decide)))).fs th_fs

theorem MkF.fi {δ : Nat → Nat → Nat} {acc : Nat → Bool} {Dm : Nat → Prop} {S' : pv_M} {R : List Nat} (h : MkF δ acc Dm S' R) : ∀ q, q < cM δ acc R → fi (kM_ δ acc R) R.length q < R.length ∧ kM_ δ acc R (fi (kM_ δ acc R) R.length q) = q ∧ ∀ j, j < fi (kM_ δ acc R) R.length q → kM_ δ acc R j ≠ q := fun q hq => fi_ok kdF_fo hq
theorem cM_le {δ : Nat → Nat → Nat} {acc : Nat → Bool} {R : List Nat} : cM δ acc R ≤ R.length := foL_len _ _
theorem MkF.c9 {δ : Nat → Nat → Nat} {acc : Nat → Bool} {Dm : Nat → Prop} {S' : pv_M} {R : List Nat} (h : MkF δ acc Dm S' R) : cM δ acc R ≤ 740 := Nat.le_trans cM_le h.1.2.2.2.2
/-- the stored register of a made machine -/
def sR (δ : Nat → Nat → Nat) (acc : Nat → Bool) (R : List Nat) (F' : Nat) : Rg := (cM δ acc R, mnT R.length (nxt δ R) (kM_ δ acc R) (cM δ acc R), F')
def sF (δ : Nat → Nat → Nat) (acc : Nat → Bool) (R : List Nat) (F' : Nat) : Prop := ∀ q, q < 6 → Nat.testBit F' q = (decide (q < cM δ acc R) && acc (R.getD (fi (kM_ δ acc R) R.length q) 0))
theorem m_stores {l : Launch} {S : pv_M} {A : Ab} {t : Nat} {δ : Nat → Nat → Nat} {acc : Nat → Bool} {Dm : Nat → Prop} {R : List Nat} (hM : MSt S A) (ht : t < 3) (h : MkF δ acc Dm S R) (hc6 : cM δ acc R ≤ 6) : mt l MX12_stores 106 [.ref 75, .int (nI t)] S (fun v S' => v = some (.int (nI (cM δ acc R))) ∧ mI S' 75 0 = nI 0 ∧ FN mC S S' ∧ ∀ F', sF δ acc R F' → MSt S' (setR A t (sR δ acc R F'))) :=
  k_stores l (ac := fun i => acc (R.getD i 0)) hM ht h.2.2.2.2.2.2.1 h.2.2.2.2.1 hc6 h.2.2.2.2.2.2.2 h.fi
