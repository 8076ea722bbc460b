/-- the class of each reached state -/
def CO (A : Ab) (a : Nat) (S : pv_M) : Prop := ∀ s, s ∈ Rm A a → mI S 99 s = nI (co A a s)
/-- where an atom leads: the place 3 * atom + letter -/
def ANb (A : Ab) (a k p : Nat) : Nat := orf (fun b => decide ((AL A a).idxOf (sa A a ((AL A a).getD b 0) (p % 3)) = p / 3)) (fun b => 2 ^ b) k
def AN (A : Ab) (a p : Nat) : Nat := ANb A a (AL A a).length p
def la (A : Ab) (a : Nat) : Nat := (AL A a).idxOf (fA A a)
theorem sa_1 {A : Ab} {a i X l : Nat} : ((orf (fun q => X.testBit (co A a (rT A a (qS A a q * 3 + l)))) (fun q => 2 ^ q) i) ||| if X.testBit (co A a (rT A a (qS A a i * 3 + l))) = true then 1 * 2 ^ i else 0) = orf (fun q => X.testBit (co A a (rT A a (qS A a q * 3 + l)))) (fun q => 2 ^ q) (i + 1) := by rw [Nat.one_mul]; rfl
theorem fA_1 {A : Ab} {a i : Nat} : ((orf (fun q => (rF A a).testBit (qS A a q)) (fun q => 2 ^ q) i) ||| if (rF A a).testBit (qS A a i) = true then 1 * 2 ^ i else 0) = orf (fun q => (rF A a).testBit (qS A a q)) (fun q => 2 ^ q) (i + 1) := by rw [Nat.one_mul]; rfl
theorem fA_eq {A : Ab} {a : Nat} (hg : gdR (A.1.1 a)) : orf (fun q => (rF A a).testBit (qS A a q)) (fun q => 2 ^ q) (cQ A a) = fA A a := orf_cong _ (fun q hq => ⟨(k6_bit (Rm_dm hg _ (qS_mem hq))).symm, fun _ => rfl⟩)

set_option maxRecDepth 100000 in
theorem lp_setAhead {x : Cx} (hR : xR x = MX12_setAhead.rm) (hmL : (xc x).maxLocals = MX12_setAhead.nL) (C : BX x cX12_setAhead RX12) {S : pv_M} {A : Ab} {a : Nat} (hS : GS S) (hM : MSt S A) (ha : a < 3) (hg : gdR (A.1.1 a)) (hQ : QA (cQ A a) (qS A a) S) (hCO : CO A a S) {X q : Nat} (hX : X < 64) (hq : q < 3) (kk : GG x 106 0 0 [.ref 75, .int (nI (a)), .int (nI (X)), .int (nI (q)), .int (nI (orf (fun q2 => X.testBit (co A a (rT A a (qS A a q2 * 3 + q)))) (fun q2 => 2 ^ q2) (cQ A a))), .int (nI (cQ A a)), unk] [] (S) 68) : ∀ z i, i + z = cQ A a → GG x 106 0 0 [.ref 75, .int (nI (a)), .int (nI (X)), .int (nI (q)), .int (nI (orf (fun q2 => X.testBit (co A a (rT A a (qS A a q2 * 3 + q)))) (fun q2 => 2 ^ q2) (i))), .int (nI (i)), unk] [] (S) 6 := by
  have hc6 := cQ_le hg
  intro z
  induction z with
  | zero =>
    intro i hz
    obtain rfl : cQ A a = i := by omega
    refine g_iload C dX12_setAhead_6 rfl ?_
    refine g_aload_n C dX12_setAhead_8 rfl ?_
    refine g_getI C (a := (nI (cQ A a))) fo_X12_238 dX12_setAhead_9 rfl (by decide) (fun _ => rfl) hQ.1 ?_
    refine n_ic_ge C 68 dX12_setAhead_12 (fun h12 => ?_) (fun h12 => absurd h12 (by omega))
    exact kk
  | succ z ih =>
    intro i hz
    have hqi := qS_lt hg (q := i) (by omega)
    have hp6 := pow6 i (by omega)
    have hmem := Rm_cl hg (qS_mem (show i < cQ A a by omega)) hq
    have hr6 : rT A a (qS A a i * 3 + q) < 6 := Nat.lt_of_lt_of_le (Rm_dm hg _ hmem) hg.2.1
    have hco := co_lt hmem
    refine g_iload C dX12_setAhead_6 rfl ?_
    refine g_aload_n C dX12_setAhead_8 rfl ?_
    refine g_getI C (a := (nI (cQ A a))) fo_X12_238 dX12_setAhead_9 rfl (by decide) (fun _ => rfl) hQ.1 ?_
    refine n_ic_ge C 68 dX12_setAhead_12 (fun h12 => absurd h12 (by omega)) (fun h12 => ?_)
    refine g_aload_n C dX12_setAhead_15 rfl ?_
    refine g_getR C fo_X12_13 dX12_setAhead_16 rfl (by decide) (fun _ => rfl) (gs_75_2 hS) ?_
    refine g_iload_n C dX12_setAhead_19 rfl ?_
    refine g_aload_n C dX12_setAhead_20 rfl ?_
    refine g_getR C fo_X12_71 dX12_setAhead_21 rfl (by decide) (fun _ => rfl) (gs_75_31 hS) ?_
    refine g_iload C dX12_setAhead_24 rfl ?_
    refine n_iald C (v := (nI (qS A a i))) dX12_setAhead_26 rfl (by decide) (hQ.2.1 i (by omega)) ?_ (by omega)
    refine g_iload_n C dX12_setAhead_27 rfl ?_
    refine g_callS C (k_place _) so_X12_110 dX12_setAhead_28 rfl rfl (rm_ok (M' := MX12_setAhead) hR (by decide)) (Nat.le_of_ble_eq_true rfl) (fun v9 S9 h9 => ?_)
    obtain ⟨rfl, h9⟩ := h9
    refine g_S S h9 ?_
    refine g_n0 [.int (nI (18 * a + 3 * (qS A a i) + q)), .ref 77] rfl rfl rfl ?_
    refine n_iald C (v := (nI (rT A a (qS A a i * 3 + q)))) dX12_setAhead_31 rfl (by decide) (hM.1.t ha (i := qS A a i * 3 + q) (by omega) (by omega)) ?_ (by omega)
    refine g_istore C (by rw [hmL]; decide) dX12_setAhead_32 [.ref 75, .int (nI (a)), .int (nI (X)), .int (nI (q)), .int (nI (orf (fun q2 => X.testBit (co A a (rT A a (qS A a q2 * 3 + q)))) (fun q2 => 2 ^ q2) (i))), .int (nI (i)), .int (nI (rT A a (qS A a i * 3 + q)))] rfl ?_
    refine g_iload C dX12_setAhead_34 rfl ?_
    refine g_iload_n C dX12_setAhead_36 rfl ?_
    refine g_aload_n C dX12_setAhead_37 rfl ?_
    refine g_getR C fo_X12_83 dX12_setAhead_38 rfl (by decide) (fun _ => rfl) (gs_75_37 hS) ?_
    refine g_iload C dX12_setAhead_41 rfl ?_
    refine n_iald C (v := (nI (co A a (rT A a (qS A a i * 3 + q))))) dX12_setAhead_43 rfl (by decide) (hCO _ hmem) ?_ (by omega)
    refine n_ishr C dX12_setAhead_44 ?_
    refine n_iconst C 1 dX12_setAhead_45 ?_
    refine n_iand C dX12_setAhead_46 ?_
    refine n_iconst C 1 dX12_setAhead_47 ?_
    suffices K59 : GG x 106 0 0 [.ref 75, .int (nI (a)), .int (nI (X)), .int (nI (q)), .int (nI (orf (fun q2 => X.testBit (co A a (rT A a (qS A a q2 * 3 + q)))) (fun q2 => 2 ^ q2) (i))), .int (nI (i)), .int (nI (rT A a (qS A a i * 3 + q)))] [.int (nI (if X.testBit (co A a (rT A a (qS A a i * 3 + q))) then 1 * 2 ^ (i) else 0)), .int (nI (orf (fun q2 => X.testBit (co A a (rT A a (qS A a q2 * 3 + q)))) (fun q2 => 2 ^ q2) (i)))] S 59 from by
      refine n_ic_ne C 58 dX12_setAhead_48 (fun h48 => ?_) (fun h48 => ?_) (by decide) (Nat.lt_of_le_of_lt Nat.and_le_right (by decide)) (by decide)
      · refine n_iconst C 0 dX12_setAhead_58 ?_
        rw [if_neg (fun z => h48 ((tb_and _ _).mpr z))] at K59; exact K59
      · refine n_iconst C 1 dX12_setAhead_51 ?_
        refine g_iload C dX12_setAhead_52 rfl ?_
        refine n_ishl C dX12_setAhead_54 ?_ (by omega) hp6
        refine g_goto C 59 dX12_setAhead_55 (by decide) ?_
        rw [if_pos ((tb_and _ _).mp h48)] at K59; exact K59
    refine n_ior C dX12_setAhead_59 ?_
    refine g_istore C (by rw [hmL]; decide) dX12_setAhead_60 [.ref 75, .int (nI (a)), .int (nI (X)), .int (nI (q)), .int (nI ((orf (fun q2 => X.testBit (co A a (rT A a (qS A a q2 * 3 + q)))) (fun q2 => 2 ^ q2) (i)) ||| (if X.testBit (co A a (rT A a (qS A a i * 3 + q))) then 1 * 2 ^ (i) else 0))), .int (nI (i)), .int (nI (rT A a (qS A a i * 3 + q)))] rfl ?_
    refine n_iinc C (by rw [hmL]; decide) dX12_setAhead_62 rfl (n_i1 _) [.ref 75, .int (nI (a)), .int (nI (X)), .int (nI (q)), .int (nI ((orf (fun q2 => X.testBit (co A a (rT A a (qS A a q2 * 3 + q)))) (fun q2 => 2 ^ q2) (i)) ||| (if X.testBit (co A a (rT A a (qS A a i * 3 + q))) then 1 * 2 ^ (i) else 0))), .int (nI (i + 1)), .int (nI (rT A a (qS A a i * 3 + q)))] ?_
    refine g_goto C 6 dX12_setAhead_65 (by decide) ?_
    rw [sa_1]
    refine g_frg [.ref 75, .int (nI (a)), .int (nI (X)), .int (nI (q)), .int (nI (orf (fun q2 => X.testBit (co A a (rT A a (qS A a q2 * 3 + q)))) (fun q2 => 2 ^ q2) (i + 1))), .int (nI (i + 1)), unk] ⟨Or.inr rfl, Or.inr rfl, Or.inr rfl, Or.inr rfl, Or.inr rfl, Or.inr rfl, Or.inl rfl, trivial⟩ ?_
    exact ih (i + 1) (by omega)

set_option maxRecDepth 100000 in
theorem k_setAhead (l : Launch) {S : pv_M} {A : Ab} {a : Nat} (hS : GS S) (hM : MSt S A) (ha : a < 3) (hg : gdR (A.1.1 a)) (hQ : QA (cQ A a) (qS A a) S) (hCO : CO A a S) {X q : Nat} (hX : X < 64) (hq : q < 3) : mt l MX12_setAhead 106 [.ref 75, .int (nI (a)), .int (nI (X)), .int (nI (q))] S (fun v S' => v = some (.int (nI (sa A a X q))) ∧ S' = S) := by
  refine mt_of (by decide) (Nat.le_of_ble_eq_true rfl) ?_
  intro x hl hR hmL C E
  show GG x 106 0 0 [.ref 75, .int (nI (a)), .int (nI (X)), .int (nI (q)), unk, unk, unk] [] S 0
  refine n_iconst C 0 dX12_setAhead_0 ?_
  refine g_istore C (by rw [hmL]; decide) dX12_setAhead_1 [.ref 75, .int (nI (a)), .int (nI (X)), .int (nI (q)), .int (nI (0)), unk, unk] rfl ?_
  refine n_iconst C 0 dX12_setAhead_3 ?_
  refine g_istore C (by rw [hmL]; decide) dX12_setAhead_4 [.ref 75, .int (nI (a)), .int (nI (X)), .int (nI (q)), .int (nI (0)), .int (nI (0)), unk] rfl ?_
  refine lp_setAhead hR hmL C hS hM ha hg hQ hCO hX hq ?_ (cQ A a) 0 (Nat.zero_add _)
  refine g_iload C dX12_setAhead_68 rfl ?_
  exact g_iret C E dX12_setAhead_70 (by rw [hR]; decide) (by rw [hR]; decide) ⟨rfl, rfl⟩

set_option maxRecDepth 100000 in
theorem l1_tam {x : Cx} (hR : xR x = MX12_tellAtomMachine.rm) (hmL : (xc x).maxLocals = MX12_tellAtomMachine.nL) (C : BX x cX12_tellAtomMachine RX12) {S0 : pv_M} {A : Ab} {a : Nat} (hg : gdR (A.1.1 a)) (g1 : MkF (d8 A a) (a8 A a) (fun c => c < rN A a) S0 (Rm A a)) (kk : ∀ S : pv_M, GS S → FN (fun r => r = 99) S0 S → (∀ j, j < (Rm A a).length → mI S 99 ((Rm A a).getD j 0) = nI (kQ A a j)) → GG x 106 0 0 [.ref 75, .int (nI (a)), .int (nI ((Rm A a).length)), unk] [] (S) 47) : ∀ z i (S : pv_M), i + z = (Rm A a).length → GS S → FN (fun r => r = 99) S0 S → (∀ j, j < i → mI S 99 ((Rm A a).getD j 0) = nI (kQ A a j)) → GG x 106 0 0 [.ref 75, .int (nI (a)), .int (nI (i)), unk] [] (S) 15 := by
  intro z
  induction z with
  | zero =>
    intro i S hz hS hf h9
    obtain rfl : (Rm A a).length = i := by omega
    have hl6 := Rm_len hg
    refine g_iload_n C dX12_tellAtomMachine_15 rfl ?_
    refine g_aload_n C dX12_tellAtomMachine_16 rfl ?_
    refine g_getI C (a := (nI ((Rm A a).length))) fo_X12_153 dX12_tellAtomMachine_17 rfl (by decide) (fun _ => rfl) ((congrFun (hf.2 75 (by decide)).1 17).trans g1.1.1) ?_
    refine n_ic_ge C 47 dX12_tellAtomMachine_20 (fun h20 => ?_) (fun h20 => absurd h20 (by omega))
    exact kk S hS hf h9
  | succ z ih =>
    intro i S hz hS hf h9
    have hs6 : (Rm A a).getD i 0 < 6 := Nat.lt_of_lt_of_le (Rm_dm hg _ (getD_mem (by omega))) hg.2.1
    have hl6 := Rm_len hg
    refine g_iload_n C dX12_tellAtomMachine_15 rfl ?_
    refine g_aload_n C dX12_tellAtomMachine_16 rfl ?_
    refine g_getI C (a := (nI ((Rm A a).length))) fo_X12_153 dX12_tellAtomMachine_17 rfl (by decide) (fun _ => rfl) ((congrFun (hf.2 75 (by decide)).1 17).trans g1.1.1) ?_
    refine n_ic_ge C 47 dX12_tellAtomMachine_20 (fun h20 => absurd h20 (by omega)) (fun h20 => ?_)
    refine g_aload_n C dX12_tellAtomMachine_23 rfl ?_
    refine g_getR C fo_X12_83 dX12_tellAtomMachine_24 rfl (by decide) (fun _ => rfl) (gs_75_37 hS) ?_
    refine g_aload_n C dX12_tellAtomMachine_27 rfl ?_
    refine g_getR C fo_X12_49 dX12_tellAtomMachine_28 rfl (by decide) (fun _ => rfl) (gs_75_18 hS) ?_
    refine g_iload_n C dX12_tellAtomMachine_31 rfl ?_
    refine n_lald C (v := (lN ((Rm A a).getD i 0))) dX12_tellAtomMachine_32 rfl (by decide) ((congrFun (hf.2 88 (by decide)).2.1 _).trans (g1.1.2.1 _ (by omega))) ?_ (by omega)
    refine n_l2i C dX12_tellAtomMachine_33 ?_
    refine g_aload_n C dX12_tellAtomMachine_34 rfl ?_
    refine g_getR C fo_X12_65 dX12_tellAtomMachine_35 rfl (by decide) (fun _ => rfl) (gs_75_27 hS) ?_
    refine g_iload_n C dX12_tellAtomMachine_38 rfl ?_
    refine n_iald C (v := (nI (kQ A a i))) dX12_tellAtomMachine_39 rfl (by decide) ((congrFun (hf.2 93 (by decide)).1 _).trans (g1.2.2.2.2.2.2.1.2.2.2.1 _ (by omega))) ?_ (by omega)
    refine g_iast C dX12_tellAtomMachine_40 rfl (by decide) (by omega) rfl ?_
    refine n_iinc C (by rw [hmL]; decide) dX12_tellAtomMachine_41 rfl (n_i1 _) [.ref 75, .int (nI (a)), .int (nI (i + 1)), unk] ?_
    refine g_goto C 15 dX12_tellAtomMachine_44 (by decide) ?_
    refine ih (i + 1) _ (by omega) (hS.fn (FN.wI (P := fun r => r = 99) rfl)) (hf.tr (FN.wI rfl)) (fun j hj => ?_)
    rw [mI_wI]
    by_cases e : j = i
    · rw [e, up_same]
    · rw [va_up_ne _ _ (fun z => e (by
        have z1 := idx_getD (bf_nodup (δ := d8 A a) (k0 := 0)) (i := j) (by show j < (Rm A a).length; omega)
        have z2 := idx_getD (bf_nodup (δ := d8 A a) (k0 := 0)) (i := i) (by show i < (Rm A a).length; omega)
        rw [← z1, ← z2]
        exact congrArg (fun y => (Rm A a).idxOf y) z))]
      exact h9 j (by omega)

set_option maxRecDepth 100000 in
theorem l2_tam {x : Cx} (hR : xR x = MX12_tellAtomMachine.rm) (hmL : (xc x).maxLocals = MX12_tellAtomMachine.nL) (C : BX x cX12_tellAtomMachine RX12) {S0 : pv_M} {a : Nat} (kk : ∀ S : pv_M, GS S → FN (fun r => r = 98) S0 S → mJ S 98 = reg 0 (192) (fun _ => lN 0) (mJ S0 98) → GG x 106 0 0 [.ref 75, .int (nI (a)), .int (nI (192)), unk] [] (S) 69) : ∀ z i (S : pv_M), i + z = 192 → GS S → FN (fun r => r = 98) S0 S → mJ S 98 = reg 0 (i) (fun _ => lN 0) (mJ S0 98) → GG x 106 0 0 [.ref 75, .int (nI (a)), .int (nI (i)), unk] [] (S) 49 := by
  intro z
  induction z with
  | zero =>
    intro i S hz hS hf h8
    obtain rfl : 192 = i := by omega
    refine g_iload_n C dX12_tellAtomMachine_49 rfl ?_
    refine n_sipush C 192 dX12_tellAtomMachine_50 ?_
    refine n_ic_ge C 69 dX12_tellAtomMachine_53 (fun h53 => ?_) (fun h53 => absurd h53 (by omega))
    exact kk S hS hf h8
  | succ z ih =>
    intro i S hz hS hf h8
    refine g_iload_n C dX12_tellAtomMachine_49 rfl ?_
    refine n_sipush C 192 dX12_tellAtomMachine_50 ?_
    refine n_ic_ge C 69 dX12_tellAtomMachine_53 (fun h53 => absurd h53 (by omega)) (fun h53 => ?_)
    refine g_aload_n C dX12_tellAtomMachine_56 rfl ?_
    refine g_getR C fo_X12_80 dX12_tellAtomMachine_57 rfl (by decide) (fun _ => rfl) (gs_75_35 hS) ?_
    refine g_iload_n C dX12_tellAtomMachine_60 rfl ?_
    refine n_lconst C 0 dX12_tellAtomMachine_61 ?_
    refine g_last C dX12_tellAtomMachine_62 rfl (by decide) (by omega) rfl ?_
    refine n_iinc C (by rw [hmL]; decide) dX12_tellAtomMachine_63 rfl (n_i1 _) [.ref 75, .int (nI (a)), .int (nI (i + 1)), unk] ?_
    refine g_goto C 49 dX12_tellAtomMachine_66 (by decide) ?_
    refine ih (i + 1) _ (by omega) (hS.fn (FN.wJ (P := fun r => r = 98) rfl)) (hf.tr (FN.wJ rfl)) (by rw [mJ_wJ, h8]; exact reg_up (by omega) rfl)

set_option maxRecDepth 100000 in
theorem l3_tam {x : Cx} (hR : xR x = MX12_tellAtomMachine.rm) (hmL : (xc x).maxLocals = MX12_tellAtomMachine.nL) (C : BX x cX12_tellAtomMachine RX12) {S0 : pv_M} {A : Ab} {a : Nat} (hM0 : MSt S0 A) (ha : a < 3) (hg : gdR (A.1.1 a)) (hQ : QA (cQ A a) (qS A a) S0) (hCO : CO A a S0) (hA : AT (AL A a) S0) {b : Nat} (hb : b < (AL A a).length) (kk : ∀ S : pv_M, GS S → FN (fun r => r = 98) S0 S → (∀ p, p < 192 → mJ S 98 p = lN (ANb A a b p ||| (if p % 3 < 3 ∧ (AL A a).idxOf (sa A a ((AL A a).getD b 0) (p % 3)) = p / 3 then 2 ^ b else 0))) → GG x 106 0 0 [.ref 75, .int (nI (a)), .int (nI (b)), .int (nI (3))] [] (S) 123) : ∀ z i (S : pv_M), i + z = 3 → GS S → FN (fun r => r = 98) S0 S → (∀ p, p < 192 → mJ S 98 p = lN (ANb A a b p ||| (if p % 3 < i ∧ (AL A a).idxOf (sa A a ((AL A a).getD b 0) (p % 3)) = p / 3 then 2 ^ b else 0))) → GG x 106 0 0 [.ref 75, .int (nI (a)), .int (nI (b)), .int (nI (i))] [] (S) 81 := by
  intro z
  induction z with
  | zero =>
    intro i S hz hS hf h8
    obtain rfl : 3 = i := by omega
    have h64 := hA.2.2.1
    refine g_iload_n C dX12_tellAtomMachine_81 rfl ?_
    refine n_iconst C 3 dX12_tellAtomMachine_82 ?_
    refine n_ic_ge C 123 dX12_tellAtomMachine_83 (fun h83 => ?_) (fun h83 => absurd h83 (by omega))
    exact kk S hS hf h8
  | succ z ih =>
    intro i S hz hS hf h8
    have h640 := hA.2.2.1
    have hmb := getD_mem hb
    have hx := AL_lt hmb
    have hsm := AL_sa hg hmb (show i < 3 by omega)
    have hs4 := AL_lt hsm
    have hnum : (AL A a).idxOf (sa A a ((AL A a).getD b 0) i) < (AL A a).length := idx_lt hsm
    have hold : mJ S 98 ((3) * ((AL A a).idxOf (sa A a ((AL A a).getD b 0) i)) + (i)) = lN (ANb A a b ((3) * ((AL A a).idxOf (sa A a ((AL A a).getD b 0) i)) + (i))) := by
      rw [h8 _ (by omega), if_neg (by omega), Nat.or_zero]
    have h64 := hA.2.2.1
    refine g_iload_n C dX12_tellAtomMachine_81 rfl ?_
    refine n_iconst C 3 dX12_tellAtomMachine_82 ?_
    refine n_ic_ge C 123 dX12_tellAtomMachine_83 (fun h83 => absurd h83 (by omega)) (fun h83 => ?_)
    refine g_aload_n C dX12_tellAtomMachine_86 rfl ?_
    refine g_getR C fo_X12_80 dX12_tellAtomMachine_87 rfl (by decide) (fun _ => rfl) (gs_75_35 hS) ?_
    refine n_iconst C 3 dX12_tellAtomMachine_90 ?_
    refine g_aload_n C dX12_tellAtomMachine_91 rfl ?_
    refine g_aload_n C dX12_tellAtomMachine_92 rfl ?_
    refine g_iload_n C dX12_tellAtomMachine_93 rfl ?_
    refine g_aload_n C dX12_tellAtomMachine_94 rfl ?_
    refine g_getR C fo_X12_74 dX12_tellAtomMachine_95 rfl (by decide) (fun _ => rfl) (gs_75_32 hS) ?_
    refine g_iload_n C dX12_tellAtomMachine_98 rfl ?_
    refine n_iald C (v := (nI ((AL A a).getD b 0))) dX12_tellAtomMachine_99 rfl (by decide) ((congrFun (hf.2 96 (by decide)).1 _).trans (hA.2.1 _ hb)) ?_ (by omega)
    refine g_iload_n C dX12_tellAtomMachine_100 rfl ?_
    refine g_callV C (As := [.int (nI (a)), .int (nI ((AL A a).getD b 0)), .int (nI (i))]) (k_setAhead _ hS (hM0.fs (FT.fn hf (fun r z => by rw [z]; decide)).1) ha hg (hQ.keep (congrFun (hf.2 75 (by decide)).1 30) (hf.2 95 (by decide)).1) (fun s hs => (congrFun (hf.2 99 (by decide)).1 s).trans (hCO s hs)) hx (by omega)) vo_X12_254 dX12_tellAtomMachine_101 rfl rfl (by decide) rfl (rm_ok (M' := MX12_tellAtomMachine) hR (by decide)) (Nat.le_of_ble_eq_true rfl) (fun v9 S9 h9 => ?_)
    obtain ⟨rfl, h9⟩ := h9
    refine g_S S h9 ?_
    refine g_n0 [.int (nI (sa A a ((AL A a).getD b 0) i)), .ref 75, .int (nI (3)), .ref 98] rfl rfl rfl ?_
    refine g_callV C (As := [.int (nI (sa A a ((AL A a).getD b 0) i))]) (k_numberOf _ hS (hA.keep (congrFun (hf.2 75 (by decide)).1 33) (hf.2 96 (by decide)).1) hs4) vo_X12_251 dX12_tellAtomMachine_104 rfl rfl (by decide) rfl (rm_ok (M' := MX12_tellAtomMachine) hR (by decide)) (Nat.le_of_ble_eq_true rfl) (fun v9 S9 h9 => ?_)
    obtain ⟨rfl, h9⟩ := h9
    refine g_S S h9 ?_
    refine g_n0 [.int (nI ((AL A a).idxOf (sa A a ((AL A a).getD b 0) i))), .int (nI (3)), .ref 98] rfl rfl rfl ?_
    refine n_imul C dX12_tellAtomMachine_107 ?_
    refine g_iload_n C dX12_tellAtomMachine_108 rfl ?_
    refine n_iadd C dX12_tellAtomMachine_109 ?_
    refine g_dup2 C dX12_tellAtomMachine_110 rfl rfl ?_
    refine n_lald C (v := (lN (ANb A a b (((3) * ((AL A a).idxOf (sa A a ((AL A a).getD b 0) i))) + (i))))) dX12_tellAtomMachine_111 rfl (by decide) hold ?_ (by omega)
    refine n_lconst C 1 dX12_tellAtomMachine_112 ?_
    refine g_iload_n C dX12_tellAtomMachine_113 rfl ?_
    refine n_lshl C dX12_tellAtomMachine_114 ?_ (by omega)
    refine n_lor C dX12_tellAtomMachine_115 ?_
    refine g_last C dX12_tellAtomMachine_116 rfl (by decide) (by omega) rfl ?_
    refine n_iinc C (by rw [hmL]; decide) dX12_tellAtomMachine_117 rfl (n_i1 _) [.ref 75, .int (nI (a)), .int (nI (b)), .int (nI (i + 1))] ?_
    refine g_goto C 81 dX12_tellAtomMachine_120 (by decide) ?_
    refine ih (i + 1) _ (by omega) (hS.fn (FN.wJ (P := fun r => r = 98) rfl)) (hf.tr (FN.wJ rfl)) (fun p hp => ?_)
    rw [mJ_wJ]
    by_cases e : p = 3 * (AL A a).idxOf (sa A a ((AL A a).getD b 0) i) + i
    · have e1 : p % 3 = i := by omega
      have e2 : p / 3 = (AL A a).idxOf (sa A a ((AL A a).getD b 0) i) := by omega
      rw [← e, up_same, e1, e2, if_pos ⟨by omega, rfl⟩, Nat.one_mul]
    · rw [va_up_ne _ _ e, h8 p hp]
      congr 2
      by_cases z : p % 3 < i ∧ (AL A a).idxOf (sa A a ((AL A a).getD b 0) (p % 3)) = p / 3
      · rw [if_pos z, if_pos ⟨by omega, z.2⟩]
      · rw [if_neg z, if_neg (fun y => ?_)]
        by_cases z2 : p % 3 = i
        · rw [z2] at y; omega
        · exact z ⟨by omega, y.2⟩

set_option maxRecDepth 100000 in
theorem l4_tam {x : Cx} (hR : xR x = MX12_tellAtomMachine.rm) (hmL : (xc x).maxLocals = MX12_tellAtomMachine.nL) (C : BX x cX12_tellAtomMachine RX12) {S0 : pv_M} {A : Ab} {a : Nat} (hM0 : MSt S0 A) (ha : a < 3) (hg : gdR (A.1.1 a)) (hQ : QA (cQ A a) (qS A a) S0) (hCO : CO A a S0) (hA : AT (AL A a) S0) (kk : ∀ S : pv_M, GS S → FN (fun r => r = 98) S0 S → (∀ p, p < 192 → mJ S 98 p = lN (ANb A a ((AL A a).length) p)) → GG x 106 0 0 [.ref 75, .int (nI (a)), .int (nI ((AL A a).length)), unk] [] (S) 129) : ∀ z i (S : pv_M), i + z = (AL A a).length → GS S → FN (fun r => r = 98) S0 S → (∀ p, p < 192 → mJ S 98 p = lN (ANb A a (i) p)) → GG x 106 0 0 [.ref 75, .int (nI (a)), .int (nI (i)), unk] [] (S) 71 := by
  intro z
  induction z with
  | zero =>
    intro i S hz hS hf h8
    obtain rfl : (AL A a).length = i := by omega
    have h64 := hA.2.2.1
    refine g_iload_n C dX12_tellAtomMachine_71 rfl ?_
    refine g_aload_n C dX12_tellAtomMachine_72 rfl ?_
    refine g_getI C (a := (nI ((AL A a).length))) fo_X12_195 dX12_tellAtomMachine_73 rfl (by decide) (fun _ => rfl) ((congrFun (hf.2 75 (by decide)).1 33).trans hA.1) ?_
    refine n_ic_ge C 129 dX12_tellAtomMachine_76 (fun h76 => ?_) (fun h76 => absurd h76 (by omega))
    exact kk S hS hf h8
  | succ z ih =>
    intro i S hz hS hf h8
    have h64 := hA.2.2.1
    refine g_iload_n C dX12_tellAtomMachine_71 rfl ?_
    refine g_aload_n C dX12_tellAtomMachine_72 rfl ?_
    refine g_getI C (a := (nI ((AL A a).length))) fo_X12_195 dX12_tellAtomMachine_73 rfl (by decide) (fun _ => rfl) ((congrFun (hf.2 75 (by decide)).1 33).trans hA.1) ?_
    refine n_ic_ge C 129 dX12_tellAtomMachine_76 (fun h76 => absurd h76 (by omega)) (fun h76 => ?_)
    refine n_iconst C 0 dX12_tellAtomMachine_79 ?_
    refine g_istore_n C (by rw [hmL]; decide) dX12_tellAtomMachine_80 [.ref 75, .int (nI (a)), .int (nI (i)), .int (nI (0))] rfl ?_
    refine l3_tam hR hmL C hM0 ha hg hQ hCO hA (b := i) (by omega) (fun S2 hS2 hf2 h82 => ?_) 3 0 S rfl hS hf (fun p hp => by rw [h8 p hp, if_neg (by omega), Nat.or_zero])
    refine n_iinc C (by rw [hmL]; decide) dX12_tellAtomMachine_123 rfl (n_i1 _) [.ref 75, .int (nI (a)), .int (nI (i + 1)), .int (nI (3))] ?_
    refine g_goto C 71 dX12_tellAtomMachine_126 (by decide) ?_
    refine g_frg [.ref 75, .int (nI (a)), .int (nI (i + 1)), unk] ⟨Or.inr rfl, Or.inr rfl, Or.inr rfl, Or.inl rfl, trivial⟩ ?_
    refine ih (i + 1) S2 (by omega) hS2 hf2 (fun p hp => ?_)
    rw [h82 p hp]
    congr 1
    show _ = ANb A a i p ||| (if decide ((AL A a).idxOf (sa A a ((AL A a).getD i 0) (p % 3)) = p / 3) = true then 2 ^ i else 0)
    congr 1
    by_cases z : (AL A a).idxOf (sa A a ((AL A a).getD i 0) (p % 3)) = p / 3
    · rw [if_pos ⟨by omega, z⟩, if_pos (decide_eq_true z)]
    · rw [if_neg (fun y => z y.2), if_neg (by rw [decide_eq_false z]; decide)]
    

set_option maxRecDepth 100000 in
theorem l5_tam {x : Cx} (hR : xR x = MX12_tellAtomMachine.rm) (hmL : (xc x).maxLocals = MX12_tellAtomMachine.nL) (C : BX x cX12_tellAtomMachine RX12) {S : pv_M} {A : Ab} {a : Nat} (hS : GS S) (hM : MSt S A) (ha : a < 3) (hg : gdR (A.1.1 a)) (hQ : QA (cQ A a) (qS A a) S) (kk : GG x 106 0 0 [.ref 75, .int (nI (a)), .int (nI (orf (fun q => (rF A a).testBit (qS A a q)) (fun q => 2 ^ q) (cQ A a))), .int (nI (cQ A a))] [] (S) 176) : ∀ z i, i + z = cQ A a → GG x 106 0 0 [.ref 75, .int (nI (a)), .int (nI (orf (fun q => (rF A a).testBit (qS A a q)) (fun q => 2 ^ q) (i))), .int (nI (i))] [] (S) 133 := by
  have hc6 := cQ_le hg
  intro z
  induction z with
  | zero =>
    intro i hz
    obtain rfl : cQ A a = i := by omega
    refine g_iload_n C dX12_tellAtomMachine_133 rfl ?_
    refine g_aload_n C dX12_tellAtomMachine_134 rfl ?_
    refine g_getI C (a := (nI (cQ A a))) fo_X12_238 dX12_tellAtomMachine_135 rfl (by decide) (fun _ => rfl) hQ.1 ?_
    refine n_ic_ge C 176 dX12_tellAtomMachine_138 (fun h138 => ?_) (fun h138 => absurd h138 (by omega))
    exact kk
  | succ z ih =>
    intro i hz
    have hqi := qS_lt hg (q := i) (by omega)
    have hp6 := pow6 i (by omega)
    refine g_iload_n C dX12_tellAtomMachine_133 rfl ?_
    refine g_aload_n C dX12_tellAtomMachine_134 rfl ?_
    refine g_getI C (a := (nI (cQ A a))) fo_X12_238 dX12_tellAtomMachine_135 rfl (by decide) (fun _ => rfl) hQ.1 ?_
    refine n_ic_ge C 176 dX12_tellAtomMachine_138 (fun h138 => absurd h138 (by omega)) (fun h138 => ?_)
    refine g_iload_n C dX12_tellAtomMachine_141 rfl ?_
    refine g_aload_n C dX12_tellAtomMachine_142 rfl ?_
    refine g_getR C fo_X12_16 dX12_tellAtomMachine_143 rfl (by decide) (fun _ => rfl) (gs_75_3 hS) ?_
    refine n_bipush C 6 dX12_tellAtomMachine_146 ?_
    refine g_iload_n C dX12_tellAtomMachine_148 rfl ?_
    refine n_imul C dX12_tellAtomMachine_149 ?_
    refine g_aload_n C dX12_tellAtomMachine_150 rfl ?_
    refine g_getR C fo_X12_71 dX12_tellAtomMachine_151 rfl (by decide) (fun _ => rfl) (gs_75_31 hS) ?_
    refine g_iload_n C dX12_tellAtomMachine_154 rfl ?_
    refine n_iald C (v := (nI (qS A a i))) dX12_tellAtomMachine_155 rfl (by decide) (hQ.2.1 i (by omega)) ?_ (by omega)
    refine n_iadd C dX12_tellAtomMachine_156 ?_
    refine n_zald C (v := (bI ((rF A a).testBit (qS A a i)))) dX12_tellAtomMachine_157 rfl (by decide) (hM.1.f ha (i := qS A a i) (by omega) rfl) ?_ (by omega)
    suffices K168 : GG x 106 0 0 [.ref 75, .int (nI (a)), .int (nI (orf (fun q => (rF A a).testBit (qS A a q)) (fun q => 2 ^ q) (i))), .int (nI (i))] [.int (nI (if (rF A a).testBit (qS A a i) then 1 * 2 ^ (i) else 0)), .int (nI (orf (fun q => (rF A a).testBit (qS A a q)) (fun q => 2 ^ q) (i)))] S 168 from by
      refine b_if_eq C 167 dX12_tellAtomMachine_158 (fun h158 => ?_) (fun h158 => ?_)
      · refine n_iconst C 0 dX12_tellAtomMachine_167 ?_
        rw [if_neg (by rw [h158]; decide)] at K168; exact K168
      · refine n_iconst C 1 dX12_tellAtomMachine_161 ?_
        refine g_iload_n C dX12_tellAtomMachine_162 rfl ?_
        refine n_ishl C dX12_tellAtomMachine_163 ?_ (by omega) hp6
        refine g_goto C 168 dX12_tellAtomMachine_164 (by decide) ?_
        rw [if_pos h158] at K168; exact K168
    refine n_ior C dX12_tellAtomMachine_168 ?_
    refine g_istore_n C (by rw [hmL]; decide) dX12_tellAtomMachine_169 [.ref 75, .int (nI (a)), .int (nI ((orf (fun q => (rF A a).testBit (qS A a q)) (fun q => 2 ^ q) (i)) ||| (if (rF A a).testBit (qS A a i) then 1 * 2 ^ (i) else 0))), .int (nI (i))] rfl ?_
    refine n_iinc C (by rw [hmL]; decide) dX12_tellAtomMachine_170 rfl (n_i1 _) [.ref 75, .int (nI (a)), .int (nI ((orf (fun q => (rF A a).testBit (qS A a q)) (fun q => 2 ^ q) (i)) ||| (if (rF A a).testBit (qS A a i) then 1 * 2 ^ (i) else 0))), .int (nI (i + 1))] ?_
    refine g_goto C 133 dX12_tellAtomMachine_173 (by decide) ?_
    rw [fA_1]
    exact ih (i + 1) (by omega)

/-- the automaton of the atoms, as the reference tells it -/
def TM (A : Ab) (a : Nat) (S : pv_M) : Prop := QA (cQ A a) (qS A a) S ∧ AT (AL A a) S ∧ (∀ p, p < 192 → mJ S 98 p = lN (AN A a p)) ∧ mI S 75 36 = nI (la A a)

set_option maxRecDepth 100000 in
theorem k_tellAtomMachine (l : Launch) {S : pv_M} {A : Ab} (hS : GS S) (hM : MSt S A) {a : Nat} (ha : a < 3) (hg : gdR (A.1.1 a)) : mt l MX12_tellAtomMachine 106 [.ref 75, .int (nI (a))] S (fun v S' => v = none ∧ TM A a S' ∧ FT S S') := by
  refine mt_of (by decide) (Nat.le_of_ble_eq_true rfl) ?_
  intro x hl hR hmL C E
  show GG x 106 0 0 [.ref 75, .int (nI (a)), unk, unk] [] S 0
  subst hl
  refine g_aload_n C dX12_tellAtomMachine_0 rfl ?_
  refine g_iload_n C dX12_tellAtomMachine_1 rfl ?_
  refine g_callV C (As := [.int (nI (a))]) (k_tellAtoms _ hS hM ha hg) vo_X12_244 dX12_tellAtomMachine_2 rfl rfl (by decide) rfl (rm_ok (M' := MX12_tellAtomMachine) hR (by decide)) (Nat.le_of_ble_eq_true rfl) (fun v9 S1 h9 => ?_)
  obtain ⟨rfl, q1, a1, t1⟩ := h9
  have hS1 : GS S1 := hS.fn t1.1.1
  have hM1 : MSt S1 A := hM.fs t1.1
  refine g_n0 [] rfl rfl rfl ?_
  refine g_aload_n C dX12_tellAtomMachine_5 rfl ?_
  refine n_bipush C 8 dX12_tellAtomMachine_6 ?_
  refine g_iload_n C dX12_tellAtomMachine_8 rfl ?_
  refine g_iload_n C dX12_tellAtomMachine_9 rfl ?_
  refine g_callV C (As := [.int (nI (8)), .int (nI (a)), .int (nI (a))]) (m_makes (mm_8 _ ha hg) hS1 hM1 trivial (Nat.le_trans (Rm_len hg) (by decide))) vo_X12_231 dX12_tellAtomMachine_10 rfl rfl (by decide) rfl (rm_ok (M' := MX12_tellAtomMachine) hR (by decide)) (Nat.le_of_ble_eq_true rfl) (fun v9 S2 h9 => ?_)
  obtain ⟨rfl, g1, g2⟩ := h9
  replace g1 : MkF (d8 A a) (a8 A a) (fun c => c < rN A a) S2 (Rm A a) := g1
  have hS2 : GS S2 := hS1.fn g2.1
  have q2 := q1.keep (g2.2.1 30 (by decide)) (g2.1.2 95 (by decide)).1
  have a2 := a1.keep (g2.2.1 33 (by decide)) (g2.1.2 96 (by decide)).1
  have t2 : FT S S2 := t1.tr g2.ft
  refine g_n0 [] rfl rfl rfl ?_
  refine n_iconst C 0 dX12_tellAtomMachine_13 ?_
  refine g_istore_n C (by rw [hmL]; decide) dX12_tellAtomMachine_14 [.ref 75, .int (nI (a)), .int (nI (0)), unk] rfl ?_
  refine l1_tam hR hmL C hg g1 (fun S3 hS3 hf3 h93 => ?_) (Rm A a).length 0 S2 (Nat.zero_add _) hS2 FN.rf (fun j hj => absurd hj (Nat.not_lt_zero _))
  have co3 : CO A a S3 := fun s hs => by have := h93 _ (idx_lt hs); rwa [getD_idx hs] at this
  have q3 := q2.keep (congrFun (hf3.2 75 (by decide)).1 30) (hf3.2 95 (by decide)).1
  have a3 := a2.keep (congrFun (hf3.2 75 (by decide)).1 33) (hf3.2 96 (by decide)).1
  have t3 : FT S S3 := t2.tr (FT.fn hf3 (fun r z => by rw [z]; decide))
  refine n_iconst C 0 dX12_tellAtomMachine_47 ?_
  refine g_istore_n C (by rw [hmL]; decide) dX12_tellAtomMachine_48 [.ref 75, .int (nI (a)), .int (nI (0)), unk] rfl ?_
  refine l2_tam hR hmL C (S0 := S3) (fun S4 hS4 hf4 h84 => ?_) 192 0 S3 rfl hS3 FN.rf reg_0.symm
  have co4 : CO A a S4 := fun s hs => (congrFun (hf4.2 99 (by decide)).1 s).trans (co3 s hs)
  have q4 := q3.keep (congrFun (hf4.2 75 (by decide)).1 30) (hf4.2 95 (by decide)).1
  have a4 := a3.keep (congrFun (hf4.2 75 (by decide)).1 33) (hf4.2 96 (by decide)).1
  have t4 : FT S S4 := t3.tr (FT.fn hf4 (fun r z => by rw [z]; decide))
  have hM4 := hM.fs t4.1
  refine n_iconst C 0 dX12_tellAtomMachine_69 ?_
  refine g_istore_n C (by rw [hmL]; decide) dX12_tellAtomMachine_70 [.ref 75, .int (nI (a)), .int (nI (0)), unk] rfl ?_
  refine l4_tam hR hmL C hM4 ha hg q4 co4 a4 (fun S5 hS5 hf5 h85 => ?_) (AL A a).length 0 S4 (Nat.zero_add _) hS4 FN.rf (fun p hp => by rw [h84, reg0 hp]; rfl)
  have q5 := q4.keep (congrFun (hf5.2 75 (by decide)).1 30) (hf5.2 95 (by decide)).1
  have a5 := a4.keep (congrFun (hf5.2 75 (by decide)).1 33) (hf5.2 96 (by decide)).1
  have t5 : FT S S5 := t4.tr (FT.fn hf5 (fun r z => by rw [z]; decide))
  have hM5 := hM.fs t5.1
  refine n_iconst C 0 dX12_tellAtomMachine_129 ?_
  refine g_istore_n C (by rw [hmL]; decide) dX12_tellAtomMachine_130 [.ref 75, .int (nI (a)), .int (nI (0)), unk] rfl ?_
  refine n_iconst C 0 dX12_tellAtomMachine_131 ?_
  refine g_istore_n C (by rw [hmL]; decide) dX12_tellAtomMachine_132 [.ref 75, .int (nI (a)), .int (nI (0)), .int (nI (0))] rfl ?_
  refine l5_tam hR hmL C hS5 hM5 ha hg q5 ?_ (cQ A a) 0 (Nat.zero_add _)
  rw [fA_eq hg]
  refine g_aload_n C dX12_tellAtomMachine_176 rfl ?_
  refine g_aload_n C dX12_tellAtomMachine_177 rfl ?_
  refine g_iload_n C dX12_tellAtomMachine_178 rfl ?_
  refine g_callV C (As := [.int (nI (fA A a))]) (k_numberOf _ hS5 a5 (AL_lt (AL_fA hg))) vo_X12_251 dX12_tellAtomMachine_179 rfl rfl (by decide) rfl (rm_ok (M' := MX12_tellAtomMachine) hR (by decide)) (Nat.le_of_ble_eq_true rfl) (fun v9 S9 h9 => ?_)
  obtain ⟨rfl, h9⟩ := h9
  refine g_S S5 h9 ?_
  refine g_n0 [.int (nI ((AL A a).idxOf (fA A a))), .ref 75] rfl rfl rfl ?_
  refine g_putI C fo_X12_202 dX12_tellAtomMachine_182 rfl (by decide) rfl ?_
  exact g_vret C E dX12_tellAtomMachine_185 (by rw [hR]; decide) (by rw [hR]; decide) ⟨rfl, ⟨q5.keep (rI_k (by decide) rfl) rfl, a5.keep (rI_k (by decide) rfl) rfl, h85, rI_s⟩, t5.tr (FT.w75 (by decide))⟩
