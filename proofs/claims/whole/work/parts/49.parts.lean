set_option maxRecDepth 100000 in
theorem lp_isAlike {x : Cx} (hR : xR x = MX12_isAlike.rm) (hmL : (xc x).maxLocals = MX12_isAlike.nL) (C : BX x cX12_isAlike RX12) {S : pv_M} {k : Nat} {nx kd : Nat → Nat} (hG : Gk S k nx kd) {a b : Nat} (ha : a < k) (hb : b < k) (kk : GG x 106 0 0 [.ref 75, .int (nI (a)), .int (nI (b)), .int (bI (alq kd nx a b (3))), .int (nI (3))] [] (S) 81) : ∀ z i, i + z = 3 → GG x 106 0 0 [.ref 75, .int (nI (a)), .int (nI (b)), .int (bI (alq kd nx a b (i))), .int (nI (i))] [] (S) 24 := by
  have hk7 := hG.2.2.2.2.2.1
  have hN : ∀ p, p < 3 * k → nx p < k := hG.2.2.1
  intro z
  induction z with
  | zero =>
    intro i hz
    obtain rfl : 3 = i := by omega
    refine g_iload C dX12_isAlike_24 rfl ?_
    refine n_iconst C 3 dX12_isAlike_26 ?_
    refine n_ic_ge C 81 dX12_isAlike_27 (fun h27 => ?_) (fun h27 => absurd h27 (by omega))
    exact kk
  | succ z ih =>
    intro i hz
    have hna := hN (a * 3 + i) (by omega)
    have hnb := hN (b * 3 + i) (by omega)
    have hda := hG.2.2.2.2.1 _ hna
    have hdb := hG.2.2.2.2.1 _ hnb
    refine g_iload C dX12_isAlike_24 rfl ?_
    refine n_iconst C 3 dX12_isAlike_26 ?_
    refine n_ic_ge C 81 dX12_isAlike_27 (fun h27 => absurd h27 (by omega)) (fun h27 => ?_)
    refine g_iload_n C dX12_isAlike_30 rfl ?_
    suffices K74 : GG x 106 0 0 [.ref 75, .int (nI (a)), .int (nI (b)), .int (bI (alq kd nx a b (i))), .int (nI (i))] [.int (bI (alq kd nx a b (i + 1)))] S 74 from by
      refine b_if_eq C 73 dX12_isAlike_31 (fun h31 => ?_) (fun h31 => ?_)
      · refine n_iconst C 0 dX12_isAlike_73 ?_
        have e : alq kd nx a b (i + 1) = false := by rw [alq, h31, Bool.false_and]
        rw [e] at K74; exact K74
      · refine g_aload_n C dX12_isAlike_34 rfl ?_
        refine g_getR C fo_X12_65 dX12_isAlike_35 rfl (by decide) (fun _ => rfl) (gs_75_27 hG.1) ?_
        refine g_aload_n C dX12_isAlike_38 rfl ?_
        refine g_getR C fo_X12_53 dX12_isAlike_39 rfl (by decide) (fun _ => rfl) (gs_75_19 hG.1) ?_
        refine n_iconst C 3 dX12_isAlike_42 ?_
        refine g_iload_n C dX12_isAlike_43 rfl ?_
        refine n_imul C dX12_isAlike_44 ?_
        refine g_iload C dX12_isAlike_45 rfl ?_
        refine n_iadd C dX12_isAlike_47 ?_
        refine n_iald C dX12_isAlike_48 rfl (by decide) (hG.nx (a := a) (q := i) (by omega) (by omega) rfl) ?_ (by omega)
        refine n_iald C dX12_isAlike_49 rfl (by decide) (hG.kx (a := a) (q := i) (by omega) (by omega)) ?_ (by omega)
        refine g_aload_n C dX12_isAlike_50 rfl ?_
        refine g_getR C fo_X12_65 dX12_isAlike_51 rfl (by decide) (fun _ => rfl) (gs_75_27 hG.1) ?_
        refine g_aload_n C dX12_isAlike_54 rfl ?_
        refine g_getR C fo_X12_53 dX12_isAlike_55 rfl (by decide) (fun _ => rfl) (gs_75_19 hG.1) ?_
        refine n_iconst C 3 dX12_isAlike_58 ?_
        refine g_iload_n C dX12_isAlike_59 rfl ?_
        refine n_imul C dX12_isAlike_60 ?_
        refine g_iload C dX12_isAlike_61 rfl ?_
        refine n_iadd C dX12_isAlike_63 ?_
        refine n_iald C dX12_isAlike_64 rfl (by decide) (hG.nx (a := b) (q := i) (by omega) (by omega) rfl) ?_ (by omega)
        refine n_iald C dX12_isAlike_65 rfl (by decide) (hG.kx (a := b) (q := i) (by omega) (by omega)) ?_ (by omega)
        refine n_ic_ne C 73 dX12_isAlike_66 (fun h66 => ?_) (fun h66 => ?_)
        · refine n_iconst C 0 dX12_isAlike_73 ?_
          first
          | (have e : alq kd nx a b (i + 1) = false := by rw [alq, decide_eq_false h66, Bool.and_false]
             rw [e] at K74; exact K74)
          | (have e : alq kd nx a b (i + 1) = true := by rw [alq, h31, decide_eq_true h66]; rfl
             rw [e] at K74; exact K74)
        · refine n_iconst C 1 dX12_isAlike_69 ?_
          refine g_goto C 74 dX12_isAlike_70 (by decide) ?_
          first
          | (have e : alq kd nx a b (i + 1) = false := by rw [alq, decide_eq_false h66, Bool.and_false]
             rw [e] at K74; exact K74)
          | (have e : alq kd nx a b (i + 1) = true := by rw [alq, h31, decide_eq_true h66]; rfl
             rw [e] at K74; exact K74)
    refine g_istore_n C (by rw [hmL]; decide) dX12_isAlike_74 [.ref 75, .int (nI (a)), .int (nI (b)), .int (bI (alq kd nx a b (i + 1))), .int (nI (i))] rfl ?_
    refine n_iinc C (by rw [hmL]; decide) dX12_isAlike_75 rfl (n_i1 _) [.ref 75, .int (nI (a)), .int (nI (b)), .int (bI (alq kd nx a b (i + 1))), .int (nI (i + 1))] ?_
    refine g_goto C 24 dX12_isAlike_78 (by decide) ?_
    exact ih (i + 1) (by omega)

set_option maxRecDepth 100000 in
theorem k_isAlike (l : Launch) {S : pv_M} {k : Nat} {nx kd : Nat → Nat} (hG : Gk S k nx kd) {a b : Nat} (ha : a < k) (hb : b < k) : mt l MX12_isAlike 106 [.ref 75, .int (nI (a)), .int (nI (b))] S (fun v S' => v = some (.int (bI (alq kd nx a b 3))) ∧ S' = S) := by
  refine mt_of (by decide) (Nat.le_of_ble_eq_true rfl) ?_
  intro x hl hR hmL C E
  show GG x 106 0 0 [.ref 75, .int (nI (a)), .int (nI (b)), unk, unk] [] S 0
  have hk7 := hG.2.2.2.2.2.1
  have hda := hG.2.2.2.2.1 a ha
  have hdb := hG.2.2.2.2.1 b hb
  refine g_aload_n C dX12_isAlike_0 rfl ?_
  refine g_getR C fo_X12_65 dX12_isAlike_1 rfl (by decide) (fun _ => rfl) (gs_75_27 hG.1) ?_
  refine g_iload_n C dX12_isAlike_4 rfl ?_
  refine n_iald C dX12_isAlike_5 rfl (by decide) (hG.2.2.2.1 _ (by omega)) ?_ (by omega)
  refine g_aload_n C dX12_isAlike_6 rfl ?_
  refine g_getR C fo_X12_65 dX12_isAlike_7 rfl (by decide) (fun _ => rfl) (gs_75_27 hG.1) ?_
  refine g_iload_n C dX12_isAlike_10 rfl ?_
  refine n_iald C dX12_isAlike_11 rfl (by decide) (hG.2.2.2.1 _ (by omega)) ?_ (by omega)
  suffices K20 : GG x 106 0 0 [.ref 75, .int (nI (a)), .int (nI (b)), unk, unk] [.int (bI (alq kd nx a b 0))] S 20 from by
    refine n_ic_ne C 19 dX12_isAlike_12 (fun h12 => ?_) (fun h12 => ?_)
    · refine n_iconst C 0 dX12_isAlike_19 ?_
      rw [show alq kd nx a b 0 = false from decide_eq_false h12] at K20; exact K20
    · refine n_iconst C 1 dX12_isAlike_15 ?_
      refine g_goto C 20 dX12_isAlike_16 (by decide) ?_
      rw [show alq kd nx a b 0 = true from decide_eq_true h12] at K20; exact K20
  refine g_istore_n C (by rw [hmL]; decide) dX12_isAlike_20 [.ref 75, .int (nI (a)), .int (nI (b)), .int (bI (alq kd nx a b 0)), unk] rfl ?_
  refine n_iconst C 0 dX12_isAlike_21 ?_
  refine g_istore C (by rw [hmL]; decide) dX12_isAlike_22 [.ref 75, .int (nI (a)), .int (nI (b)), .int (bI (alq kd nx a b 0)), .int (nI (0))] rfl ?_
  refine lp_isAlike hR hmL C hG ha hb ?_ 3 0 rfl
  refine g_iload_n C dX12_isAlike_81 rfl ?_
  exact g_zret C E dX12_isAlike_82 (bI_01 _) (by rw [hR]; decide) (by rw [hR]; decide) ⟨rfl, rfl⟩

set_option maxRecDepth 100000 in
theorem lp_nodeOfClass {x : Cx} (hR : xR x = MX12_nodeOfClass.rm) (hmL : (xc x).maxLocals = MX12_nodeOfClass.nL) (C : BX x cX12_nodeOfClass RX12) {S : pv_M} {k : Nat} {nx kd : Nat → Nat} (hG : Gk S k nx kd) {c m : Nat} (hc : c < 1000) (hm : m < k) (hkc : kd m = c) (hfst : ∀ j, j < m → kd j ≠ c) (kk : GG x 106 0 0 [.ref 75, .int (nI (c)), .int (nI (m))] [] (S) 18) : ∀ z i, i + z = m → GG x 106 0 0 [.ref 75, .int (nI (c)), .int (nI (i))] [] (S) 2 := by
  have hk7 := hG.2.2.2.2.2.1
  intro z
  induction z with
  | zero =>
    intro i hz
    obtain rfl : m = i := by omega
    have hdm := hG.2.2.2.2.1 m hm
    refine g_aload_n C dX12_nodeOfClass_2 rfl ?_
    refine g_getR C fo_X12_65 dX12_nodeOfClass_3 rfl (by decide) (fun _ => rfl) (gs_75_27 hG.1) ?_
    refine g_iload_n C dX12_nodeOfClass_6 rfl ?_
    refine n_iald C dX12_nodeOfClass_7 rfl (by decide) (hG.2.2.2.1 _ (by omega)) ?_ (by omega)
    refine g_iload_n C dX12_nodeOfClass_8 rfl ?_
    refine n_ic_eq C 18 dX12_nodeOfClass_9 (fun h9 => ?_) (fun h9 => absurd hkc h9)
    exact kk
  | succ z ih =>
    intro i hz
    have hdm := hG.2.2.2.2.1 i (by omega)
    refine g_aload_n C dX12_nodeOfClass_2 rfl ?_
    refine g_getR C fo_X12_65 dX12_nodeOfClass_3 rfl (by decide) (fun _ => rfl) (gs_75_27 hG.1) ?_
    refine g_iload_n C dX12_nodeOfClass_6 rfl ?_
    refine n_iald C dX12_nodeOfClass_7 rfl (by decide) (hG.2.2.2.1 _ (by omega)) ?_ (by omega)
    refine g_iload_n C dX12_nodeOfClass_8 rfl ?_
    refine n_ic_eq C 18 dX12_nodeOfClass_9 (fun h9 => absurd h9 (hfst i (by omega))) (fun h9 => ?_)
    refine n_iinc C (by rw [hmL]; decide) dX12_nodeOfClass_12 rfl (n_i1 _) [.ref 75, .int (nI (c)), .int (nI (i + 1))] ?_
    refine g_goto C 2 dX12_nodeOfClass_15 (by decide) ?_
    exact ih (i + 1) (by omega)

set_option maxRecDepth 100000 in
theorem k_nodeOfClass (l : Launch) {S : pv_M} {k : Nat} {nx kd : Nat → Nat} (hG : Gk S k nx kd) {c m : Nat} (hm : m < k) (hkc : kd m = c) (hfst : ∀ j, j < m → kd j ≠ c) : mt l MX12_nodeOfClass 106 [.ref 75, .int (nI (c))] S (fun v S' => v = some (.int (nI m)) ∧ S' = S) := by
  refine mt_of (by decide) (Nat.le_of_ble_eq_true rfl) ?_
  intro x hl hR hmL C E
  show GG x 106 0 0 [.ref 75, .int (nI (c)), unk] [] S 0
  refine n_iconst C 0 dX12_nodeOfClass_0 ?_
  refine g_istore_n C (by rw [hmL]; decide) dX12_nodeOfClass_1 [.ref 75, .int (nI (c)), .int (nI (0))] rfl ?_
  refine lp_nodeOfClass hR hmL C hG (by rw [← hkc]; exact hG.2.2.2.2.1 m hm) hm hkc hfst ?_ m 0 (Nat.zero_add _)
  refine g_iload_n C dX12_nodeOfClass_18 rfl ?_
  exact g_iret C E dX12_nodeOfClass_19 (by rw [hR]; decide) (by rw [hR]; decide) ⟨rfl, rfl⟩

set_option maxRecDepth 100000 in
theorem lp_parts_b {x : Cx} (hR : xR x = MX12_parts.rm) (hmL : (xc x).maxLocals = MX12_parts.nL) (C : BX x cX12_parts RX12) {S : pv_M} {k : Nat} {nx kd : Nat → Nat} (hG : Gk S k nx kd) {m : Nat} {w : Int32} (hm : m < k) (kk : ∀ i, i ≤ m → (∀ j, j < i → kvM kd nx j ≠ kvM kd nx m) → (i < m → kvM kd nx i = kvM kd nx m) → GG x 106 0 0 [.ref 75, .int (w), .int (nI (m)), .int (nI (i))] [] (S) 99) : ∀ z i, i + z = m → (∀ j, j < i → kvM kd nx j ≠ kvM kd nx m) → GG x 106 0 0 [.ref 75, .int (w), .int (nI (m)), .int (nI (i))] [] (S) 79 := by
  have hk7 := hG.2.2.2.2.2.1
  intro z
  induction z with
  | zero =>
    intro i hz hp
    refine g_iload_n C dX12_parts_79 rfl ?_
    refine g_iload_n C dX12_parts_80 rfl ?_
    refine n_ic_ge C 99 dX12_parts_81 (fun h81 => ?_) (fun h81 => absurd h81 (by omega))
    exact kk i (by omega) hp (fun h => absurd h (by omega))
  | succ z ih =>
    intro i hz hp
    have hal := alq_kv (kd := kd) (nx := nx) hm (show i < k by omega) hG.2.2.1 hG.2.2.2.2.1
    refine g_iload_n C dX12_parts_79 rfl ?_
    refine g_iload_n C dX12_parts_80 rfl ?_
    refine n_ic_ge C 99 dX12_parts_81 (fun h81 => absurd h81 (by omega)) (fun h81 => ?_)
    refine g_aload_n C dX12_parts_84 rfl ?_
    refine g_iload_n C dX12_parts_85 rfl ?_
    refine g_iload_n C dX12_parts_86 rfl ?_
    refine g_callV C (As := [.int (nI (m)), .int (nI (i))]) (k_isAlike _ hG hm (show i < k by omega)) vo_X12_225 dX12_parts_87 rfl rfl (by decide) rfl (rm_ok (M' := MX12_parts) hR (by decide)) (Nat.le_of_ble_eq_true rfl) (fun v9 S9 h9 => ?_)
    obtain ⟨rfl, h9⟩ := h9
    refine g_S S h9 ?_
    refine g_n0 [.int (bI (alq kd nx m i 3))] rfl rfl rfl ?_
    refine b_if_ne C 99 dX12_parts_90 (fun h90 => ?_) (fun h90 => ?_)
    · exact kk i (by omega) hp (fun _ => by rw [h90] at hal; exact (of_decide_eq_true hal.symm).symm)
    · refine n_iinc C (by rw [hmL]; decide) dX12_parts_93 rfl (n_i1 _) [.ref 75, .int (w), .int (nI (m)), .int (nI (i + 1))] ?_
      refine g_goto C 79 dX12_parts_96 (by decide) ?_
      exact ih (i + 1) (by omega) (fun j hj => by
        by_cases e : j = i
        · rw [h90] at hal; rw [e]; exact fun z => of_decide_eq_false hal.symm z.symm
        · exact hp j (by omega))

set_option maxRecDepth 100000 in
theorem lp_parts_a {x : Cx} (hR : xR x = MX12_parts.rm) (hmL : (xc x).maxLocals = MX12_parts.nL) (C : BX x cX12_parts RX12) {S0 : pv_M} {k : Nat} {nx kd : Nat → Nat} {w : Int32} (hk7 : k ≤ 740) (kk : ∀ S : pv_M, Gk S k nx kd → FQ k5 S0 S → FN (fun r => r = 75 ∨ r = 94) S0 S → (∀ q, q ≠ 29 → mI S 75 q = mI S0 75 q) → mI S 75 29 = nI (foL (kvM kd nx) k).length → (∀ j, j < k → mI S 94 j = nI ((foL (kvM kd nx) k).idxOf (kvM kd nx j))) → GG x 106 0 0 [.ref 75, .int (w), .int (nI (k)), unk] [] (S) 148) : ∀ z i (S : pv_M), i + z = k → Gk S k nx kd → FQ k5 S0 S → FN (fun r => r = 75 ∨ r = 94) S0 S → (∀ q, q ≠ 29 → mI S 75 q = mI S0 75 q) → mI S 75 29 = nI (foL (kvM kd nx) i).length → (∀ j, j < i → mI S 94 j = nI ((foL (kvM kd nx) k).idxOf (kvM kd nx j))) → GG x 106 0 0 [.ref 75, .int (w), .int (nI (i)), unk] [] (S) 69 := by
  intro z
  induction z with
  | zero =>
    intro i S hz hG hf hf2 hs hc hd
    obtain rfl : k = i := by omega
    refine g_iload_n C dX12_parts_69 rfl ?_
    refine g_aload_n C dX12_parts_70 rfl ?_
    refine g_getI C fo_X12_153 dX12_parts_71 rfl (by decide) (fun _ => rfl) hG.2.2.2.2.2.2 ?_
    refine n_ic_ge C 148 dX12_parts_74 (fun h74 => ?_) (fun h74 => absurd h74 (by omega))
    exact kk S hG hf hf2 hs hc hd
  | succ z ih =>
    intro i S hz hG hf hf2 hs hc hd
    refine g_iload_n C dX12_parts_69 rfl ?_
    refine g_aload_n C dX12_parts_70 rfl ?_
    refine g_getI C fo_X12_153 dX12_parts_71 rfl (by decide) (fun _ => rfl) hG.2.2.2.2.2.2 ?_
    refine n_ic_ge C 148 dX12_parts_74 (fun h74 => absurd h74 (by omega)) (fun h74 => ?_)
    refine n_iconst C 0 dX12_parts_77 ?_
    refine g_istore_n C (by rw [hmL]; decide) dX12_parts_78 [.ref 75, .int (w), .int (nI (i)), .int (nI (0))] rfl ?_
    refine lp_parts_b hR hmL C hG (m := i) (by omega) (fun b hb hp hq => ?_) i 0 (Nat.zero_add _) (fun j hj => absurd hj (Nat.not_lt_zero j))
    have hlen := foL_len (kvM kd nx) i
    rcases Nat.lt_or_ge b i with hbi | hbi
    · have hin : kvM kd nx i ∈ foL (kvM kd nx) i := by rw [← hq hbi]; exact foL_mem hbi
      have hfo : foL (kvM kd nx) (i + 1) = foL (kvM kd nx) i := addc_in hin
      have hv : nI ((foL (kvM kd nx) k).idxOf (kvM kd nx b)) = nI ((foL (kvM kd nx) k).idxOf (kvM kd nx i)) := by rw [hq hbi]
      refine g_aload_n C dX12_parts_99 rfl ?_
      refine g_getR C fo_X12_68 dX12_parts_100 rfl (by decide) (fun _ => rfl) (gs_75_28 hG.1) ?_
      refine g_iload_n C dX12_parts_103 rfl ?_
      refine g_iload_n C dX12_parts_104 rfl ?_
      refine g_iload_n C dX12_parts_105 rfl ?_
      refine n_ic_ge C 118 dX12_parts_106 (fun h106 => absurd h106 (by omega)) (fun h106 => ?_)
      refine g_aload_n C dX12_parts_109 rfl ?_
      refine g_getR C fo_X12_68 dX12_parts_110 rfl (by decide) (fun _ => rfl) (gs_75_28 hG.1) ?_
      refine g_iload_n C dX12_parts_113 rfl ?_
      refine n_iald C dX12_parts_114 rfl (by decide) (hd b hbi) ?_ (by omega)
      refine g_goto C 122 dX12_parts_115 (by decide) ?_
      refine g_iast C dX12_parts_122 rfl (by decide) (by omega) rfl ?_
      refine g_aload_n C dX12_parts_123 rfl ?_
      refine g_dup C dX12_parts_124 rfl ?_
      refine g_getI C fo_X12_222 dX12_parts_125 rfl (by decide) (fun _ => rfl) hc ?_
      refine g_iload_n C dX12_parts_128 rfl ?_
      refine g_iload_n C dX12_parts_129 rfl ?_
      refine n_ic_ge C 137 dX12_parts_130 (fun h130 => absurd h130 (by omega)) (fun h130 => ?_)
      refine n_iconst C 0 dX12_parts_133 ?_
      refine g_goto C 138 dX12_parts_134 (by decide) ?_
      refine n_iadd C dX12_parts_138 ?_
      refine g_putI C fo_X12_222 dX12_parts_139 rfl (by decide) rfl ?_
      refine n_iinc C (by rw [hmL]; decide) dX12_parts_142 rfl (n_i1 _) [.ref 75, .int (w), .int (nI (i + 1)), .int (nI (b))] ?_
      refine g_goto C 69 dX12_parts_145 (by decide) ?_
      refine g_frg [.ref 75, .int (w), .int (nI (i + 1)), unk] ⟨Or.inr rfl, Or.inr rfl, Or.inr rfl, Or.inl rfl, trivial⟩ ?_
      exact ih (i + 1) _ (by omega) ((hG.keep (T := wI S 94 (va_up (mI S 94) i (nI ((foL (kvM kd nx) k).idxOf (kvM kd nx b))))) (hG.1.fn (FN.wI (P := mC) (by decide))) rfl rfl rfl).keep (hG.1.fn ((FN.wI (P := mC) (by decide)).tr (FN.wI (by decide)))) rfl rfl rfl) (hf.tr ((FQ.cI (by omega)).tr (FQ.w75 (by decide)))) (hf2.tr ((FN.wI (by decide)).tr (FN.wI (by decide)))) (fun q hq => (rI_k (S := wI S 94 _) hq rfl).trans (hs q hq)) (by rw [hfo]; exact rI_s) (fun j hj => by
        show va_up (mI S 94) i (nI ((foL (kvM kd nx) k).idxOf (kvM kd nx b))) j = _
        by_cases e : j = i
        · rw [e, up_same, hv]
        · rw [va_up_ne _ _ e]; exact hd j (by omega))
    · obtain rfl : i = b := by omega
      have hin : kvM kd nx i ∉ foL (kvM kd nx) i := fun z => by obtain ⟨j, hj, e⟩ := foL_of z; exact hp j hj e.symm
      have hfo : foL (kvM kd nx) (i + 1) = foL (kvM kd nx) i ++ [kvM kd nx i] := addc_out hin
      have hix : (foL (kvM kd nx) k).idxOf (kvM kd nx i) = (foL (kvM kd nx) i).length := by
        have h1 := (foL_idx (v := kvM kd nx) (k := i + 1) (foL_mem (show i < i + 1 by omega)) (k - (i + 1))).1
        rw [show i + 1 + (k - (i + 1)) = k by omega] at h1
        rw [h1, hfo, List.idxOf_append, if_neg hin]
        simp
      have hv : nI (foL (kvM kd nx) i).length = nI ((foL (kvM kd nx) k).idxOf (kvM kd nx i)) := by rw [hix]
      refine g_aload_n C dX12_parts_99 rfl ?_
      refine g_getR C fo_X12_68 dX12_parts_100 rfl (by decide) (fun _ => rfl) (gs_75_28 hG.1) ?_
      refine g_iload_n C dX12_parts_103 rfl ?_
      refine g_iload_n C dX12_parts_104 rfl ?_
      refine g_iload_n C dX12_parts_105 rfl ?_
      refine n_ic_ge C 118 dX12_parts_106 (fun h106 => ?_) (fun h106 => absurd h106 (by omega))
      refine g_aload_n C dX12_parts_118 rfl ?_
      refine g_getI C fo_X12_222 dX12_parts_119 rfl (by decide) (fun _ => rfl) hc ?_
      refine g_iast C dX12_parts_122 rfl (by decide) (by omega) rfl ?_
      refine g_aload_n C dX12_parts_123 rfl ?_
      refine g_dup C dX12_parts_124 rfl ?_
      refine g_getI C fo_X12_222 dX12_parts_125 rfl (by decide) (fun _ => rfl) hc ?_
      refine g_iload_n C dX12_parts_128 rfl ?_
      refine g_iload_n C dX12_parts_129 rfl ?_
      refine n_ic_ge C 137 dX12_parts_130 (fun h130 => ?_) (fun h130 => absurd h130 (by omega))
      refine n_iconst C 1 dX12_parts_137 ?_
      refine n_iadd C dX12_parts_138 ?_
      refine g_putI C fo_X12_222 dX12_parts_139 rfl (by decide) rfl ?_
      refine n_iinc C (by rw [hmL]; decide) dX12_parts_142 rfl (n_i1 _) [.ref 75, .int (w), .int (nI (i + 1)), .int (nI (i))] ?_
      refine g_goto C 69 dX12_parts_145 (by decide) ?_
      refine g_frg [.ref 75, .int (w), .int (nI (i + 1)), unk] ⟨Or.inr rfl, Or.inr rfl, Or.inr rfl, Or.inl rfl, trivial⟩ ?_
      exact ih (i + 1) _ (by omega) ((hG.keep (T := wI S 94 (va_up (mI S 94) i (nI (foL (kvM kd nx) i).length))) (hG.1.fn (FN.wI (P := mC) (by decide))) rfl rfl rfl).keep (hG.1.fn ((FN.wI (P := mC) (by decide)).tr (FN.wI (by decide)))) rfl rfl rfl) (hf.tr ((FQ.cI (by omega)).tr (FQ.w75 (by decide)))) (hf2.tr ((FN.wI (by decide)).tr (FN.wI (by decide)))) (fun q hq => (rI_k (S := wI S 94 _) hq rfl).trans (hs q hq)) (by rw [hfo, List.length_append]; exact rI_s) (fun j hj => by
        show va_up (mI S 94) i (nI (foL (kvM kd nx) i).length) j = _
        by_cases e : j = i
        · rw [e, up_same, hv]
        · rw [va_up_ne _ _ e]; exact hd j (by omega))
    

set_option maxRecDepth 100000 in
theorem lp_parts_c {x : Cx} (hR : xR x = MX12_parts.rm) (hmL : (xc x).maxLocals = MX12_parts.nL) (C : BX x cX12_parts RX12) {S0 : pv_M} {k : Nat} {w : Int32} (hk7 : k ≤ 740) (h17 : mI S0 75 17 = nI k) (kk : ∀ S : pv_M, GS S → FN (fun r => r = 93) S0 S → mI S 93 = reg 0 k (mI S0 94) (mI S0 93) → GG x 106 0 0 [.ref 75, .int (w), .int (nI (k)), unk] [] (S) 176) : ∀ z i (S : pv_M), i + z = k → GS S → FN (fun r => r = 93) S0 S → mI S 93 = reg 0 i (mI S0 94) (mI S0 93) → GG x 106 0 0 [.ref 75, .int (w), .int (nI (i)), unk] [] (S) 150 := by
  intro z
  induction z with
  | zero =>
    intro i S hz hS hf hd
    obtain rfl : k = i := by omega
    refine g_iload_n C dX12_parts_150 rfl ?_
    refine g_aload_n C dX12_parts_151 rfl ?_
    refine g_getI C fo_X12_153 dX12_parts_152 rfl (by decide) (fun _ => rfl) ((congrFun (hf.2 75 (by decide)).1 17).trans h17) ?_
    refine n_ic_ge C 176 dX12_parts_155 (fun h155 => ?_) (fun h155 => absurd h155 (by omega))
    exact kk S hS hf hd
  | succ z ih =>
    intro i S hz hS hf hd
    refine g_iload_n C dX12_parts_150 rfl ?_
    refine g_aload_n C dX12_parts_151 rfl ?_
    refine g_getI C fo_X12_153 dX12_parts_152 rfl (by decide) (fun _ => rfl) ((congrFun (hf.2 75 (by decide)).1 17).trans h17) ?_
    refine n_ic_ge C 176 dX12_parts_155 (fun h155 => absurd h155 (by omega)) (fun h155 => ?_)
    refine g_aload_n C dX12_parts_158 rfl ?_
    refine g_getR C fo_X12_65 dX12_parts_159 rfl (by decide) (fun _ => rfl) (gs_75_27 hS) ?_
    refine g_iload_n C dX12_parts_162 rfl ?_
    refine g_aload_n C dX12_parts_163 rfl ?_
    refine g_getR C fo_X12_68 dX12_parts_164 rfl (by decide) (fun _ => rfl) (gs_75_28 hS) ?_
    refine g_iload_n C dX12_parts_167 rfl ?_
    refine n_iald C dX12_parts_168 rfl (by decide) (congrFun (hf.2 94 (by decide)).1 _) ?_ (by omega)
    refine g_iast C dX12_parts_169 rfl (by decide) (by omega) rfl ?_
    refine n_iinc C (by rw [hmL]; decide) dX12_parts_170 rfl (n_i1 _) [.ref 75, .int (w), .int (nI (i + 1)), unk] ?_
    refine g_goto C 150 dX12_parts_173 (by decide) ?_
    exact ih (i + 1) _ (by omega) (hS.fn (FN.wI (P := fun r => r = 93) rfl)) (hf.tr (FN.wI rfl)) (reg_I hd (by omega) rfl)
