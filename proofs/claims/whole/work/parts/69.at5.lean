/-- pairs of sets that are led back side by side -/
def dU (A : Ab) (a b p l : Nat) : Nat := lbM A a (p / 2 ^ 6) l (rN A a) * 64 + lbM A b (p &&& 63) l (rN A b)
def U0 (A : Ab) (a b : Nat) : Nat := k6 A a * 64 + k6 A b
def RU (A : Ab) (a b : Nat) : List Nat := bfsF (dU A a b) 4096 0 [U0 A a b]
def MP (L : List Nat) (S : pv_M) : Prop := mI S 75 40 = nI L.length ∧ (∀ i, i < L.length → mI S 101 i = nI (L.getD i 0)) ∧ (∀ p, p < 4096 → mI S 100 p = bI (decide (p ∈ L))) ∧ L.Nodup ∧ ∀ p, p ∈ L → p < 4096
theorem MP.len {L : List Nat} {S : pv_M} (h : MP L S) : L.length ≤ 4096 := nodup_le h.2.2.2.1 h.2.2.2.2
abbrev mU : Nat → Prop := fun r => r = 75 ∨ r = 100 ∨ r = 101
def FU (S T : pv_M) : Prop := FN mU S T ∧ ∀ k, k ≠ 40 → mI T 75 k = mI S 75 k
theorem FU.rf {S : pv_M} : FU S S := ⟨FN.rf, fun _ _ => rfl⟩
theorem FU.tr {S T U : pv_M} (h : FU S T) (k : FU T U) : FU S U := ⟨h.1.tr k.1, fun i hi => (k.2 i hi).trans (h.2 i hi)⟩
theorem FU.ft {S T : pv_M} (h : FU S T) : FT S T := ⟨⟨h.1.mono (fun r z => by rcases z with z | z | z; exact Or.inl z; exact Or.inr (by omega); exact Or.inr (by omega)), h.2 4 (by decide), h.2 10 (by decide), h.2 14 (by decide)⟩, h.2 0 (by decide)⟩
theorem sh6 {x y : Nat} (h : y < 64) : x * 2 ^ 6 ||| y = x * 64 + y := by
  rw [show x * 64 = x * 2 ^ 6 from rfl, ← Nat.shiftLeft_eq, Nat.shiftLeft_add_eq_or_of_lt (show y < 2 ^ 6 from h)]
theorem MP.add {L : List Nat} {S : pv_M} {c : Nat} (h : MP L S) (hc : c ∉ L) (hc4 : c < 4096) : MP (addc L c) (wI (wI (wI S 100 (va_up (mI S 100) c (bI true))) 101 (va_up (mI S 101) L.length (nI c))) 75 (va_up (mI S 75) 40 (nI (L.length + 1)))) := by
  have hn := addc_nodup c h.2.2.2.1
  rw [addc_out hc] at hn ⊢
  refine ⟨by rw [mI_wI, up_same]; simp, fun i hi => ?_, fun p hp => ?_, hn, fun p hp => ?_⟩
  · show va_up (mI S 101) L.length (nI c) i = _
    simp only [List.length_append, List.length_cons, List.length_nil] at hi
    rw [getD_snoc hi]
    by_cases e : i = L.length
    · rw [if_pos e, e, up_same]
    · rw [if_neg e, va_up_ne _ _ e]; exact h.2.1 i (by omega)
  · show va_up (mI S 100) c (bI true) p = _
    by_cases e : p = c
    · rw [e, up_same]; simp
    · rw [va_up_ne _ _ e, h.2.2.1 p hp]; simp [e]
  · rcases List.mem_append.mp hp with z | z
    · exact h.2.2.2.2 p z
    · rw [List.mem_singleton.mp z]; exact hc4
theorem MP.room {L : List Nat} {S : pv_M} {c : Nat} (h : MP L S) (hc : c ∉ L) (hc4 : c < 4096) : L.length < 4096 := by
  have := (h.add hc hc4).len
  rw [addc_out hc] at this
  simp at this
  omega

set_option maxRecDepth 100000 in
theorem k_meets (l : Launch) {S : pv_M} {L : List Nat} (hS : GS S) (hP : MP L S) {u w : Nat} (hx : u < 64) (hy : w < 64) : mt l MX12_meets 106 [.ref 75, .int (nI (u)), .int (nI (w))] S (fun v S' => v = none ∧ MP (addc L (u * 64 + w)) S' ∧ FU S S') := by
  refine mt_of (by decide) (Nat.le_of_ble_eq_true rfl) ?_
  intro x hl hR hmL C E
  show GG x 106 0 0 [.ref 75, .int (nI (u)), .int (nI (w)), unk] [] S 0
  have hl4 := hP.len
  have hxy : u * 64 + w < 4096 := by omega
  refine g_iload_n C dX12_meets_0 rfl ?_
  refine n_bipush C 6 dX12_meets_1 ?_
  refine n_ishl C dX12_meets_3 ?_ (by omega) (by omega)
  refine g_iload_n C dX12_meets_4 rfl ?_
  refine n_ior C dX12_meets_5 ?_
  rw [sh6 hy]
  refine g_istore_n C (by rw [hmL]; decide) dX12_meets_6 [.ref 75, .int (nI (u)), .int (nI (w)), .int (nI (u * 64 + w))] rfl ?_
  refine g_aload_n C dX12_meets_7 rfl ?_
  refine g_getR C fo_X12_86 dX12_meets_8 rfl (by decide) (fun _ => rfl) (gs_75_38 hS) ?_
  refine g_iload_n C dX12_meets_11 rfl ?_
  refine n_zald C (v := (bI (decide (u * 64 + w ∈ L)))) dX12_meets_12 rfl (by decide) (hP.2.2.1 _ (by omega)) ?_ (by omega)
  refine b_if_ne C 43 dX12_meets_13 (fun h13 => ?_) (fun h13 => ?_)
  · exact g_vret C E dX12_meets_43 (by rw [hR]; decide) (by rw [hR]; decide) (by first | exact ⟨rfl, by rw [addc_in (of_decide_eq_true h13)]; exact hP, FU.rf⟩ | exact ⟨rfl, hP.add (of_decide_eq_false h13) hxy, ((FN.wI (by decide)).tr (FN.wI (by decide))).tr (FN.wI (by decide)), fun k hk => rI_k hk rfl⟩)
  · refine g_aload_n C dX12_meets_16 rfl ?_
    refine g_getR C fo_X12_86 dX12_meets_17 rfl (by decide) (fun _ => rfl) (gs_75_38 hS) ?_
    refine g_iload_n C dX12_meets_20 rfl ?_
    refine g_iconst C (bI true) dX12_meets_21 (by decide) ?_
    refine g_zast C dX12_meets_22 rfl (by decide) (by omega) rfl (bI_nar _) ?_
    refine g_aload_n C dX12_meets_23 rfl ?_
    refine g_getR C fo_X12_89 dX12_meets_24 rfl (by decide) (fun _ => rfl) (gs_75_39 hS) ?_
    refine g_aload_n C dX12_meets_27 rfl ?_
    refine g_getI C (a := (nI (L.length))) fo_X12_268 dX12_meets_28 rfl (by decide) (fun _ => rfl) hP.1 ?_
    refine g_iload_n C dX12_meets_31 rfl ?_
    refine g_iast C dX12_meets_32 rfl (by decide) (hP.room (of_decide_eq_false h13) hxy) rfl ?_
    refine g_aload_n C dX12_meets_33 rfl ?_
    refine g_dup C dX12_meets_34 rfl ?_
    refine g_getI C (a := (nI (L.length))) fo_X12_268 dX12_meets_35 rfl (by decide) (fun _ => rfl) hP.1 ?_
    refine n_iconst C 1 dX12_meets_38 ?_
    refine n_iadd C dX12_meets_39 ?_
    refine g_putI C fo_X12_268 dX12_meets_40 rfl (by decide) rfl ?_
    exact g_vret C E dX12_meets_43 (by rw [hR]; decide) (by rw [hR]; decide) (by first | exact ⟨rfl, by rw [addc_in (of_decide_eq_true h13)]; exact hP, FU.rf⟩ | exact ⟨rfl, hP.add (of_decide_eq_false h13) hxy, ((FN.wI (by decide)).tr (FN.wI (by decide))).tr (FN.wI (by decide)), fun k hk => rI_k hk rfl⟩)

theorem lb_1 {A : Ab} {a X q i : Nat} : (lbM A a X q i ||| if X.testBit (rT A a (i * 3 + q)) = true then 1 * 2 ^ i else 0) = lbM A a X q (i + 1) := by rw [Nat.one_mul]; rfl
theorem fs_1 {A : Ab} {a i : Nat} : (fsM A a i ||| if (rF A a).testBit i = true then 1 * 2 ^ i else 0) = fsM A a (i + 1) := by rw [Nat.one_mul]; rfl

set_option maxRecDepth 100000 in
theorem lp_backFrom {x : Cx} (hR : xR x = MX12_backFrom.rm) (hmL : (xc x).maxLocals = MX12_backFrom.nL) (C : BX x cX12_backFrom RX12) {S : pv_M} {A : Ab} {a : Nat} (hS : GS S) (hM : MSt S A) (ha : a < 3) (hg : gdR (A.1.1 a)) {X q : Nat} (hX : X < 64) (hq : q < 3) (kk : GG x 106 0 0 [.ref 75, .int (nI (a)), .int (nI (X)), .int (nI (q)), .int (nI (lbM A a X q (rN A a))), .int (nI (rN A a))] [] (S) 56) : ∀ z i, i + z = rN A a → GG x 106 0 0 [.ref 75, .int (nI (a)), .int (nI (X)), .int (nI (q)), .int (nI (lbM A a X q (i))), .int (nI (i))] [] (S) 6 := by
  have hn6 : rN A a ≤ 6 := hg.2.1
  intro z
  induction z with
  | zero =>
    intro i hz
    obtain rfl : rN A a = i := by omega
    refine g_iload C dX12_backFrom_6 rfl ?_
    refine g_aload_n C dX12_backFrom_8 rfl ?_
    refine g_getR C fo_X12_7 dX12_backFrom_9 rfl (by decide) (fun _ => rfl) (gs_75_1 hS) ?_
    refine g_iload_n C dX12_backFrom_12 rfl ?_
    refine n_iald C (v := (nI (rN A a))) dX12_backFrom_13 rfl (by decide) (hM.1.n ha) ?_ (by omega)
    refine n_ic_ge C 56 dX12_backFrom_14 (fun h14 => ?_) (fun h14 => absurd h14 (by omega))
    exact kk
  | succ z ih =>
    intro i hz
    have hp6 := pow6 i (by omega)
    have hr6 : rT A a (i * 3 + q) < 6 := Nat.lt_of_lt_of_le (hg.2.2.1 _ (by show i * 3 + q < (A.1.1 a).1 * 3; have : rN A a = (A.1.1 a).1 := rfl; omega)) hg.2.1
    refine g_iload C dX12_backFrom_6 rfl ?_
    refine g_aload_n C dX12_backFrom_8 rfl ?_
    refine g_getR C fo_X12_7 dX12_backFrom_9 rfl (by decide) (fun _ => rfl) (gs_75_1 hS) ?_
    refine g_iload_n C dX12_backFrom_12 rfl ?_
    refine n_iald C (v := (nI (rN A a))) dX12_backFrom_13 rfl (by decide) (hM.1.n ha) ?_ (by omega)
    refine n_ic_ge C 56 dX12_backFrom_14 (fun h14 => absurd h14 (by omega)) (fun h14 => ?_)
    refine g_iload C dX12_backFrom_17 rfl ?_
    refine g_iload_n C dX12_backFrom_19 rfl ?_
    refine g_aload_n C dX12_backFrom_20 rfl ?_
    refine g_getR C fo_X12_13 dX12_backFrom_21 rfl (by decide) (fun _ => rfl) (gs_75_2 hS) ?_
    refine g_iload_n C dX12_backFrom_24 rfl ?_
    refine g_iload C dX12_backFrom_25 rfl ?_
    refine g_iload_n C dX12_backFrom_27 rfl ?_
    refine g_callS C (k_place _) so_X12_110 dX12_backFrom_28 rfl rfl (rm_ok (M' := MX12_backFrom) hR (by decide)) (Nat.le_of_ble_eq_true rfl) (fun v9 S9 h9 => ?_)
    obtain ⟨rfl, h9⟩ := h9
    refine g_S S h9 ?_
    refine g_n0 [.int (nI (18 * a + 3 * i + q)), .ref 77, .int (nI (X)), .int (nI (lbM A a X q (i)))] rfl rfl rfl ?_
    refine n_iald C (v := (nI (rT A a (i * 3 + q)))) dX12_backFrom_31 rfl (by decide) (hM.1.t ha (i := i * 3 + q) (by omega) (by omega)) ?_ (by omega)
    refine n_ishr C dX12_backFrom_32 ?_
    refine n_iconst C 1 dX12_backFrom_33 ?_
    refine n_iand C dX12_backFrom_34 ?_
    refine n_iconst C 1 dX12_backFrom_35 ?_
    suffices K47 : GG x 106 0 0 [.ref 75, .int (nI (a)), .int (nI (X)), .int (nI (q)), .int (nI (lbM A a X q (i))), .int (nI (i))] [.int (nI (if X.testBit (rT A a (i * 3 + q)) then 1 * 2 ^ (i) else 0)), .int (nI (lbM A a X q (i)))] S 47 from by
      refine n_ic_ne C 46 dX12_backFrom_36 (fun h36 => ?_) (fun h36 => ?_) (by decide) (Nat.lt_of_le_of_lt Nat.and_le_right (by decide)) (by decide)
      · refine n_iconst C 0 dX12_backFrom_46 ?_
        rw [if_neg (fun z => h36 ((tb_and _ _).mpr z))] at K47; exact K47
      · refine n_iconst C 1 dX12_backFrom_39 ?_
        refine g_iload C dX12_backFrom_40 rfl ?_
        refine n_ishl C dX12_backFrom_42 ?_ (by omega) hp6
        refine g_goto C 47 dX12_backFrom_43 (by decide) ?_
        rw [if_pos ((tb_and _ _).mp h36)] at K47; exact K47
    refine n_ior C dX12_backFrom_47 ?_
    refine g_istore C (by rw [hmL]; decide) dX12_backFrom_48 [.ref 75, .int (nI (a)), .int (nI (X)), .int (nI (q)), .int (nI ((lbM A a X q (i)) ||| (if X.testBit (rT A a (i * 3 + q)) then 1 * 2 ^ (i) else 0))), .int (nI (i))] rfl ?_
    refine n_iinc C (by rw [hmL]; decide) dX12_backFrom_50 rfl (n_i1 _) [.ref 75, .int (nI (a)), .int (nI (X)), .int (nI (q)), .int (nI ((lbM A a X q (i)) ||| (if X.testBit (rT A a (i * 3 + q)) then 1 * 2 ^ (i) else 0))), .int (nI (i + 1))] ?_
    refine g_goto C 6 dX12_backFrom_53 (by decide) ?_
    rw [lb_1]
    exact ih (i + 1) (by omega)

set_option maxRecDepth 100000 in
theorem k_backFrom (l : Launch) {S : pv_M} {A : Ab} {a : Nat} (hS : GS S) (hM : MSt S A) (ha : a < 3) (hg : gdR (A.1.1 a)) {X q : Nat} (hX : X < 64) (hq : q < 3) : mt l MX12_backFrom 106 [.ref 75, .int (nI (a)), .int (nI (X)), .int (nI (q))] S (fun v S' => v = some (.int (nI (lbM A a X q (rN A a)))) ∧ S' = S) := by
  refine mt_of (by decide) (Nat.le_of_ble_eq_true rfl) ?_
  intro x hl hR hmL C E
  show GG x 106 0 0 [.ref 75, .int (nI (a)), .int (nI (X)), .int (nI (q)), unk, unk] [] S 0
  refine n_iconst C 0 dX12_backFrom_0 ?_
  refine g_istore C (by rw [hmL]; decide) dX12_backFrom_1 [.ref 75, .int (nI (a)), .int (nI (X)), .int (nI (q)), .int (nI (0)), unk] rfl ?_
  refine n_iconst C 0 dX12_backFrom_3 ?_
  refine g_istore C (by rw [hmL]; decide) dX12_backFrom_4 [.ref 75, .int (nI (a)), .int (nI (X)), .int (nI (q)), .int (nI (0)), .int (nI (0))] rfl ?_
  refine lp_backFrom hR hmL C hS hM ha hg hX hq ?_ (rN A a) 0 (Nat.zero_add _)
  refine g_iload C dX12_backFrom_56 rfl ?_
  exact g_iret C E dX12_backFrom_58 (by rw [hR]; decide) (by rw [hR]; decide) ⟨rfl, rfl⟩

set_option maxRecDepth 100000 in
theorem lp_finalsOf {x : Cx} (hR : xR x = MX12_finalsOf.rm) (hmL : (xc x).maxLocals = MX12_finalsOf.nL) (C : BX x cX12_finalsOf RX12) {S : pv_M} {A : Ab} {a : Nat} (hS : GS S) (hM : MSt S A) (ha : a < 3) (hg : gdR (A.1.1 a)) (kk : GG x 106 0 0 [.ref 75, .int (nI (a)), .int (nI (fsM A a (rN A a))), .int (nI (rN A a))] [] (S) 44) : ∀ z i, i + z = rN A a → GG x 106 0 0 [.ref 75, .int (nI (a)), .int (nI (fsM A a (i))), .int (nI (i))] [] (S) 4 := by
  have hn6 : rN A a ≤ 6 := hg.2.1
  intro z
  induction z with
  | zero =>
    intro i hz
    obtain rfl : rN A a = i := by omega
    refine g_iload_n C dX12_finalsOf_4 rfl ?_
    refine g_aload_n C dX12_finalsOf_5 rfl ?_
    refine g_getR C fo_X12_7 dX12_finalsOf_6 rfl (by decide) (fun _ => rfl) (gs_75_1 hS) ?_
    refine g_iload_n C dX12_finalsOf_9 rfl ?_
    refine n_iald C (v := (nI (rN A a))) dX12_finalsOf_10 rfl (by decide) (hM.1.n ha) ?_ (by omega)
    refine n_ic_ge C 44 dX12_finalsOf_11 (fun h11 => ?_) (fun h11 => absurd h11 (by omega))
    exact kk
  | succ z ih =>
    intro i hz
    have hp6 := pow6 i (by omega)
    refine g_iload_n C dX12_finalsOf_4 rfl ?_
    refine g_aload_n C dX12_finalsOf_5 rfl ?_
    refine g_getR C fo_X12_7 dX12_finalsOf_6 rfl (by decide) (fun _ => rfl) (gs_75_1 hS) ?_
    refine g_iload_n C dX12_finalsOf_9 rfl ?_
    refine n_iald C (v := (nI (rN A a))) dX12_finalsOf_10 rfl (by decide) (hM.1.n ha) ?_ (by omega)
    refine n_ic_ge C 44 dX12_finalsOf_11 (fun h11 => absurd h11 (by omega)) (fun h11 => ?_)
    refine g_iload_n C dX12_finalsOf_14 rfl ?_
    refine g_aload_n C dX12_finalsOf_15 rfl ?_
    refine g_getR C fo_X12_16 dX12_finalsOf_16 rfl (by decide) (fun _ => rfl) (gs_75_3 hS) ?_
    refine n_bipush C 6 dX12_finalsOf_19 ?_
    refine g_iload_n C dX12_finalsOf_21 rfl ?_
    refine n_imul C dX12_finalsOf_22 ?_
    refine g_iload_n C dX12_finalsOf_23 rfl ?_
    refine n_iadd C dX12_finalsOf_24 ?_
    refine n_zald C (v := (bI ((rF A a).testBit i))) dX12_finalsOf_25 rfl (by decide) (hM.1.f ha (i := i) (by omega) rfl) ?_ (by omega)
    suffices K36 : GG x 106 0 0 [.ref 75, .int (nI (a)), .int (nI (fsM A a (i))), .int (nI (i))] [.int (nI (if (rF A a).testBit i then 1 * 2 ^ (i) else 0)), .int (nI (fsM A a (i)))] S 36 from by
      refine b_if_eq C 35 dX12_finalsOf_26 (fun h26 => ?_) (fun h26 => ?_)
      · refine n_iconst C 0 dX12_finalsOf_35 ?_
        rw [if_neg (by rw [h26]; decide)] at K36; exact K36
      · refine n_iconst C 1 dX12_finalsOf_29 ?_
        refine g_iload_n C dX12_finalsOf_30 rfl ?_
        refine n_ishl C dX12_finalsOf_31 ?_ (by omega) hp6
        refine g_goto C 36 dX12_finalsOf_32 (by decide) ?_
        rw [if_pos h26] at K36; exact K36
    refine n_ior C dX12_finalsOf_36 ?_
    refine g_istore_n C (by rw [hmL]; decide) dX12_finalsOf_37 [.ref 75, .int (nI (a)), .int (nI ((fsM A a (i)) ||| (if (rF A a).testBit i then 1 * 2 ^ (i) else 0))), .int (nI (i))] rfl ?_
    refine n_iinc C (by rw [hmL]; decide) dX12_finalsOf_38 rfl (n_i1 _) [.ref 75, .int (nI (a)), .int (nI ((fsM A a (i)) ||| (if (rF A a).testBit i then 1 * 2 ^ (i) else 0))), .int (nI (i + 1))] ?_
    refine g_goto C 4 dX12_finalsOf_41 (by decide) ?_
    rw [fs_1]
    exact ih (i + 1) (by omega)

set_option maxRecDepth 100000 in
theorem k_finalsOf (l : Launch) {S : pv_M} {A : Ab} {a : Nat} (hS : GS S) (hM : MSt S A) (ha : a < 3) (hg : gdR (A.1.1 a)) : mt l MX12_finalsOf 106 [.ref 75, .int (nI (a))] S (fun v S' => v = some (.int (nI (k6 A a))) ∧ S' = S) := by
  refine mt_of (by decide) (Nat.le_of_ble_eq_true rfl) ?_
  intro x hl hR hmL C E
  show GG x 106 0 0 [.ref 75, .int (nI (a)), unk, unk] [] S 0
  refine n_iconst C 0 dX12_finalsOf_0 ?_
  refine g_istore_n C (by rw [hmL]; decide) dX12_finalsOf_1 [.ref 75, .int (nI (a)), .int (nI (0)), unk] rfl ?_
  refine n_iconst C 0 dX12_finalsOf_2 ?_
  refine g_istore_n C (by rw [hmL]; decide) dX12_finalsOf_3 [.ref 75, .int (nI (a)), .int (nI (0)), .int (nI (0))] rfl ?_
  refine lp_finalsOf hR hmL C hS hM ha hg ?_ (rN A a) 0 (Nat.zero_add _)
  refine g_iload_n C dX12_finalsOf_44 rfl ?_
  exact g_iret C E dX12_finalsOf_45 (by rw [hR]; decide) (by rw [hR]; decide) ⟨rfl, rfl⟩

set_option maxRecDepth 100000 in
theorem l1_iu {x : Cx} (hR : xR x = MX12_isUnionOfAtoms.rm) (hmL : (xc x).maxLocals = MX12_isUnionOfAtoms.nL) (C : BX x cX12_isUnionOfAtoms RX12) {S0 : pv_M} {a b : Nat} (kk : ∀ S : pv_M, GS S → FN (fun r => r = 100) S0 S → mI S 100 = reg 0 (4096) (fun _ => bI false) (mI S0 100) → GG x 106 0 0 [.ref 75, .int (nI (a)), .int (nI (b)), .int (nI (4096)), unk, unk, unk, unk, unk, unk] [] (S) 47) : ∀ z i (S : pv_M), i + z = 4096 → GS S → FN (fun r => r = 100) S0 S → mI S 100 = reg 0 (i) (fun _ => bI false) (mI S0 100) → GG x 106 0 0 [.ref 75, .int (nI (a)), .int (nI (b)), .int (nI (i)), unk, unk, unk, unk, unk, unk] [] (S) 27 := by
  intro z
  induction z with
  | zero =>
    intro i S hz hS hf h0
    obtain rfl : 4096 = i := by omega
    refine g_iload_n C dX12_isUnionOfAtoms_27 rfl ?_
    refine n_sipush C 4096 dX12_isUnionOfAtoms_28 ?_
    refine n_ic_ge C 47 dX12_isUnionOfAtoms_31 (fun h31 => ?_) (fun h31 => absurd h31 (by omega))
    exact kk S hS hf h0
  | succ z ih =>
    intro i S hz hS hf h0
    refine g_iload_n C dX12_isUnionOfAtoms_27 rfl ?_
    refine n_sipush C 4096 dX12_isUnionOfAtoms_28 ?_
    refine n_ic_ge C 47 dX12_isUnionOfAtoms_31 (fun h31 => absurd h31 (by omega)) (fun h31 => ?_)
    refine g_aload_n C dX12_isUnionOfAtoms_34 rfl ?_
    refine g_getR C fo_X12_86 dX12_isUnionOfAtoms_35 rfl (by decide) (fun _ => rfl) (gs_75_38 hS) ?_
    refine g_iload_n C dX12_isUnionOfAtoms_38 rfl ?_
    refine g_iconst C (bI false) dX12_isUnionOfAtoms_39 (by decide) ?_
    refine g_zast C dX12_isUnionOfAtoms_40 rfl (by decide) (by omega) rfl (bI_nar _) ?_
    refine n_iinc C (by rw [hmL]; decide) dX12_isUnionOfAtoms_41 rfl (n_i1 _) [.ref 75, .int (nI (a)), .int (nI (b)), .int (nI (i + 1)), unk, unk, unk, unk, unk, unk] ?_
    refine g_goto C 27 dX12_isUnionOfAtoms_44 (by decide) ?_
    refine ih (i + 1) _ (by omega) (hS.fn (FN.wI (P := fun r => r = 100) rfl)) (hf.tr (FN.wI rfl)) (by rw [mI_wI, h0]; exact reg_up (by omega) rfl)

set_option maxRecDepth 100000 in
theorem l2_iu {x : Cx} (hR : xR x = MX12_isUnionOfAtoms.rm) (hmL : (xc x).maxLocals = MX12_isUnionOfAtoms.nL) (C : BX x cX12_isUnionOfAtoms RX12) {S0 : pv_M} {A : Ab} {a b : Nat} (hM0 : MSt S0 A) (ha : a < 3) (hga : gdR (A.1.1 a)) (hb : b < 3) (hgb : gdR (A.1.1 b)) {m : Nat} {L : List Nat} (hm : m < L.length) (hL : ∀ p, p ∈ L → p < 4096) (kk : ∀ S : pv_M, GS S → MP (addq (dU A a b) (L.getD m 0) (3) L) S → FU S0 S → GG x 106 0 0 [.ref 75, .int (nI (a)), .int (nI (b)), .int (nI (m)), .int (nI (3)), unk, unk, unk, unk, unk] [] (S) 127) : ∀ z i (S : pv_M), i + z = 3 → GS S → MP (addq (dU A a b) (L.getD m 0) (i) L) S → FU S0 S → GG x 106 0 0 [.ref 75, .int (nI (a)), .int (nI (b)), .int (nI (m)), .int (nI (i)), unk, unk, unk, unk, unk] [] (S) 79 := by
  intro z
  induction z with
  | zero =>
    intro i S hz hS hP hf
    obtain rfl : 3 = i := by omega
    refine g_iload C dX12_isUnionOfAtoms_79 rfl ?_
    refine n_iconst C 3 dX12_isUnionOfAtoms_81 ?_
    refine n_ic_ge C 127 dX12_isUnionOfAtoms_82 (fun h82 => ?_) (fun h82 => absurd h82 (by omega))
    exact kk S hS hP hf
  | succ z ih =>
    intro i S hz hS hP hf
    have hlen := addq_len (dU A a b) (L.getD m 0) L i
    have hl4 := hP.len
    have hp4 := hL _ (getD_mem hm)
    have h63 : L.getD m 0 &&& 63 < 64 := Nat.lt_of_le_of_lt Nat.and_le_right (by decide)
    have hM : MSt S A := hM0.fs hf.ft.1
    refine g_iload C dX12_isUnionOfAtoms_79 rfl ?_
    refine n_iconst C 3 dX12_isUnionOfAtoms_81 ?_
    refine n_ic_ge C 127 dX12_isUnionOfAtoms_82 (fun h82 => absurd h82 (by omega)) (fun h82 => ?_)
    refine g_aload_n C dX12_isUnionOfAtoms_85 rfl ?_
    refine g_aload_n C dX12_isUnionOfAtoms_86 rfl ?_
    refine g_iload_n C dX12_isUnionOfAtoms_87 rfl ?_
    refine g_aload_n C dX12_isUnionOfAtoms_88 rfl ?_
    refine g_getR C fo_X12_89 dX12_isUnionOfAtoms_89 rfl (by decide) (fun _ => rfl) (gs_75_39 hS) ?_
    refine g_iload_n C dX12_isUnionOfAtoms_92 rfl ?_
    refine n_iald C (v := (nI (L.getD m 0))) dX12_isUnionOfAtoms_93 rfl (by decide) ((hP.2.1 _ (by omega)).trans (by rw [addq_getD _ _ hm])) ?_ (by omega)
    refine n_bipush C 6 dX12_isUnionOfAtoms_94 ?_
    refine n_ishr C dX12_isUnionOfAtoms_96 ?_
    refine g_iload C dX12_isUnionOfAtoms_97 rfl ?_
    refine g_callV C (As := [.int (nI (a)), .int (nI ((L.getD m 0) / 2 ^ (6))), .int (nI (i))]) (k_backFrom _ hS hM ha hga (by omega) (by omega)) vo_X12_277 dX12_isUnionOfAtoms_99 rfl rfl (by decide) rfl (rm_ok (M' := MX12_isUnionOfAtoms) hR (by decide)) (Nat.le_of_ble_eq_true rfl) (fun v9 S5 h9 => ?_)
    obtain ⟨rfl, h9⟩ := h9
    refine g_S S h9 ?_
    refine g_n0 [.int (nI (lbM A a ((L.getD m 0) / 2 ^ (6)) i (rN A a))), .ref 75] rfl rfl rfl ?_
    refine g_aload_n C dX12_isUnionOfAtoms_102 rfl ?_
    refine g_iload_n C dX12_isUnionOfAtoms_103 rfl ?_
    refine g_aload_n C dX12_isUnionOfAtoms_104 rfl ?_
    refine g_getR C fo_X12_89 dX12_isUnionOfAtoms_105 rfl (by decide) (fun _ => rfl) (gs_75_39 hS) ?_
    refine g_iload_n C dX12_isUnionOfAtoms_108 rfl ?_
    refine n_iald C (v := (nI (L.getD m 0))) dX12_isUnionOfAtoms_109 rfl (by decide) ((hP.2.1 _ (by omega)).trans (by rw [addq_getD _ _ hm])) ?_ (by omega)
    refine n_bipush C 63 dX12_isUnionOfAtoms_110 ?_
    refine n_iand C dX12_isUnionOfAtoms_112 ?_
    refine g_iload C dX12_isUnionOfAtoms_113 rfl ?_
    refine g_callV C (As := [.int (nI (b)), .int (nI ((L.getD m 0) &&& (63))), .int (nI (i))]) (k_backFrom _ hS hM hb hgb h63 (by omega)) vo_X12_277 dX12_isUnionOfAtoms_115 rfl rfl (by decide) rfl (rm_ok (M' := MX12_isUnionOfAtoms) hR (by decide)) (Nat.le_of_ble_eq_true rfl) (fun v9 S5 h9 => ?_)
    obtain ⟨rfl, h9⟩ := h9
    refine g_S S h9 ?_
    refine g_n0 [.int (nI (lbM A b ((L.getD m 0) &&& (63)) i (rN A b))), .int (nI (lbM A a ((L.getD m 0) / 2 ^ (6)) i (rN A a))), .ref 75] rfl rfl rfl ?_
    refine g_callV C (As := [.int (nI (lbM A a ((L.getD m 0) / 2 ^ (6)) i (rN A a))), .int (nI (lbM A b ((L.getD m 0) &&& (63)) i (rN A b)))]) (k_meets _ hS hP (lt64_n hga (pw_n (Nat.le_refl _))) (lt64_n hgb (pw_n (Nat.le_refl _)))) vo_X12_274 dX12_isUnionOfAtoms_118 rfl rfl (by decide) rfl (rm_ok (M' := MX12_isUnionOfAtoms) hR (by decide)) (Nat.le_of_ble_eq_true rfl) (fun v9 S9 h9 => ?_)
    obtain ⟨rfl, m1, m2⟩ := h9
    refine g_n0 [] rfl rfl rfl ?_
    refine n_iinc C (by rw [hmL]; decide) dX12_isUnionOfAtoms_121 rfl (n_i1 _) [.ref 75, .int (nI (a)), .int (nI (b)), .int (nI (m)), .int (nI (i + 1)), unk, unk, unk, unk, unk] ?_
    refine g_goto C 79 dX12_isUnionOfAtoms_124 (by decide) ?_
    exact ih (i + 1) S9 (by omega) (hS.fn m2.1) m1 (hf.tr m2)

set_option maxRecDepth 100000 in
theorem l3_iu {x : Cx} (hR : xR x = MX12_isUnionOfAtoms.rm) (hmL : (xc x).maxLocals = MX12_isUnionOfAtoms.nL) (C : BX x cX12_isUnionOfAtoms RX12) {S0 : pv_M} {A : Ab} {a b : Nat} (hM0 : MSt S0 A) (ha : a < 3) (hga : gdR (A.1.1 a)) (hb : b < 3) (hgb : gdR (A.1.1 b)) (kk : ∀ S i, GS S → MP (RU A a b) S → FU S0 S → GG x 106 0 0 [.ref 75, .int (nI (a)), .int (nI (b)), .int (nI (i)), unk, unk, unk, unk, unk, unk] [] (S) 133) : ∀ z i (S : pv_M) (L : List Nat), i + z = 4096 → i ≤ L.length → GS S → MP L S → FU S0 S → RU A a b = bfsF (dU A a b) z i L → GG x 106 0 0 [.ref 75, .int (nI (a)), .int (nI (b)), .int (nI (i)), unk, unk, unk, unk, unk, unk] [] (S) 68 := by
  intro z
  induction z with
  | zero =>
    intro i S L hz hil hS hP hf hb9
    have hl4 := hP.len
    obtain rfl : RU A a b = L := hb9
    refine g_iload_n C dX12_isUnionOfAtoms_68 rfl ?_
    refine g_aload_n C dX12_isUnionOfAtoms_69 rfl ?_
    refine g_getI C (a := (nI ((RU A a b).length))) fo_X12_268 dX12_isUnionOfAtoms_70 rfl (by decide) (fun _ => rfl) hP.1 ?_
    refine n_ic_ge C 133 dX12_isUnionOfAtoms_73 (fun h73 => ?_) (fun h73 => absurd h73 (by omega))
    exact kk S i hS hP hf
  | succ z ih =>
    intro i S L hz hil hS hP hf hb9
    have hl4 := hP.len
    refine g_iload_n C dX12_isUnionOfAtoms_68 rfl ?_
    refine g_aload_n C dX12_isUnionOfAtoms_69 rfl ?_
    refine g_getI C (a := (nI (L.length))) fo_X12_268 dX12_isUnionOfAtoms_70 rfl (by decide) (fun _ => rfl) hP.1 ?_
    refine n_ic_ge C 133 dX12_isUnionOfAtoms_73 (fun h73 => ?_) (fun h73 => ?_)
    · have e : RU A a b = L := by rw [hb9, bfsF_end (by omega)]
      exact kk S i hS (by rw [e]; exact hP) hf
    · refine n_iconst C 0 dX12_isUnionOfAtoms_76 ?_
      refine g_istore C (by rw [hmL]; decide) dX12_isUnionOfAtoms_77 [.ref 75, .int (nI (a)), .int (nI (b)), .int (nI (i)), .int (nI (0)), unk, unk, unk, unk, unk] rfl ?_
      refine l2_iu hR hmL C hM0 ha hga hb hgb (m := i) (L := L) (by omega) hP.2.2.2.2 (fun S2 hS2 hP2 hf2 => ?_) 3 0 S rfl hS hP hf
      refine n_iinc C (by rw [hmL]; decide) dX12_isUnionOfAtoms_127 rfl (n_i1 _) [.ref 75, .int (nI (a)), .int (nI (b)), .int (nI (i + 1)), .int (nI (3)), unk, unk, unk, unk, unk] ?_
      refine g_goto C 68 dX12_isUnionOfAtoms_130 (by decide) ?_
      refine g_frg [.ref 75, .int (nI (a)), .int (nI (b)), .int (nI (i + 1)), unk, unk, unk, unk, unk, unk] ⟨Or.inr rfl, Or.inr rfl, Or.inr rfl, Or.inr rfl, Or.inl rfl, Or.inl rfl, Or.inl rfl, Or.inl rfl, Or.inl rfl, Or.inl rfl, trivial⟩ ?_
      have hln := addq_len (dU A a b) (L.getD i 0) L 3
      refine ih (i + 1) S2 _ (by omega) (by omega) hS2 hP2 hf2 ?_
      rw [hb9, bfsF_step (by omega) (by omega), show z + 1 - 1 = z from rfl]
      

theorem RU_fst {A : Ab} {a b p : Nat} (ha : gdR (A.1.1 a)) (hb : gdR (A.1.1 b)) (h : p ∈ RU A a b) : p / 2 ^ 6 ∈ Rb A a ∧ p &&& 63 ∈ Rb A b := by
  have key : ∀ x y, y < 64 → (x * 64 + y) / 2 ^ 6 = x ∧ (x * 64 + y) &&& 63 = y := fun x y hy => ⟨by omega, by rw [show (63 : Nat) = 2 ^ 6 - 1 from rfl, Nat.and_two_pow_sub_one_eq_mod]; omega⟩
  refine bfsF_dm (Dm := fun p => p / 2 ^ 6 ∈ Rb A a ∧ p &&& 63 ∈ Rb A b) (fun c q hc hq => ?_) 4096 0 [U0 A a b] (fun p hp => ?_) p h
  · have k := key (lbM A a (c / 2 ^ 6) q (rN A a)) (lbM A b (c &&& 63) q (rN A b)) (lt64_n hb (pw_n (Nat.le_refl _)))
    show dU A a b c q / 2 ^ 6 ∈ _ ∧ dU A a b c q &&& 63 ∈ _
    unfold dU
    rw [k.1, k.2]
    exact ⟨Rb_cl ha hc.1 hq, Rb_cl hb hc.2 hq⟩
  · rw [List.mem_singleton.mp hp]
    have k := key (k6 A a) (k6 A b) (lt64_n hb (pw_n (Nat.le_refl _)))
    unfold U0
    rw [k.1, k.2]
    exact ⟨bf_0, bf_0⟩
/-- the number of the atom of a pair -/
def nU (A : Ab) (a b k : Nat) : Nat := (AL A a).idxOf (ofS A a ((RU A a b).getD k 0 / 2 ^ 6))
def yU (A : Ab) (a b i : Nat) : Nat := orf (fun k => ((RU A a b).getD k 0).testBit 0) (fun k => 2 ^ nU A a b k) i
def zU (A : Ab) (a b i : Nat) : Nat := orf (fun k => !((RU A a b).getD k 0).testBit 0) (fun k => 2 ^ nU A a b k) i
theorem yU_1 {A : Ab} {a b i : Nat} : (yU A a b i ||| if ((RU A a b).getD i 0).testBit 0 = true then 1 * 2 ^ nU A a b i else 0) = yU A a b (i + 1) := by rw [Nat.one_mul]; rfl
theorem zU_1 {A : Ab} {a b i : Nat} : (zU A a b i ||| if ((RU A a b).getD i 0).testBit 0 = true then 0 else 1 * 2 ^ nU A a b i) = zU A a b (i + 1) := by
  rw [Nat.one_mul]
  show _ = zU A a b i ||| (if (!((RU A a b).getD i 0).testBit 0) = true then 2 ^ nU A a b i else 0)
  cases ((RU A a b).getD i 0).testBit 0 <;> rfl

set_option maxRecDepth 100000 in
theorem l4_iu {x : Cx} (hR : xR x = MX12_isUnionOfAtoms.rm) (hmL : (xc x).maxLocals = MX12_isUnionOfAtoms.nL) (C : BX x cX12_isUnionOfAtoms RX12) {S : pv_M} {A : Ab} {a b : Nat} (hS : GS S) (hga : gdR (A.1.1 a)) (hgb : gdR (A.1.1 b)) (hP : MP (RU A a b) S) (hQ : QA (cQ A a) (qS A a) S) (hA : AT (AL A a) S) (kk : GG x 106 0 0 [.ref 75, .int (nI (a)), .int (nI (b)), .long (lN (yU A a b ((RU A a b).length))), unk, .long (lN (zU A a b ((RU A a b).length))), unk, .int (nI ((RU A a b).length)), unk, unk] [] (S) 225) : ∀ z i, i + z = (RU A a b).length → GG x 106 0 0 [.ref 75, .int (nI (a)), .int (nI (b)), .long (lN (yU A a b (i))), unk, .long (lN (zU A a b (i))), unk, .int (nI (i)), unk, unk] [] (S) 141 := by
  have hl4 := hP.len
  intro z
  induction z with
  | zero =>
    intro i hz
    obtain rfl : (RU A a b).length = i := by omega
    refine g_iload C dX12_isUnionOfAtoms_141 rfl ?_
    refine g_aload_n C dX12_isUnionOfAtoms_143 rfl ?_
    refine g_getI C (a := (nI ((RU A a b).length))) fo_X12_268 dX12_isUnionOfAtoms_144 rfl (by decide) (fun _ => rfl) hP.1 ?_
    refine n_ic_ge C 225 dX12_isUnionOfAtoms_147 (fun h147 => ?_) (fun h147 => absurd h147 (by omega))
    exact kk
  | succ z ih =>
    intro i hz
    have hmem := getD_mem (show i < (RU A a b).length by omega)
    have hp4 := hP.2.2.2.2 _ hmem
    have hn64 : nU A a b i < 64 := Nat.lt_of_lt_of_le (idx_lt ((AL_mem hga).mpr ⟨_, (RU_fst hga hgb hmem).1, rfl⟩)) AL_len
    refine g_iload C dX12_isUnionOfAtoms_141 rfl ?_
    refine g_aload_n C dX12_isUnionOfAtoms_143 rfl ?_
    refine g_getI C (a := (nI ((RU A a b).length))) fo_X12_268 dX12_isUnionOfAtoms_144 rfl (by decide) (fun _ => rfl) hP.1 ?_
    refine n_ic_ge C 225 dX12_isUnionOfAtoms_147 (fun h147 => absurd h147 (by omega)) (fun h147 => ?_)
    refine n_lconst C 1 dX12_isUnionOfAtoms_150 ?_
    refine g_aload_n C dX12_isUnionOfAtoms_151 rfl ?_
    refine g_aload_n C dX12_isUnionOfAtoms_152 rfl ?_
    refine g_aload_n C dX12_isUnionOfAtoms_153 rfl ?_
    refine g_getR C fo_X12_89 dX12_isUnionOfAtoms_154 rfl (by decide) (fun _ => rfl) (gs_75_39 hS) ?_
    refine g_iload C dX12_isUnionOfAtoms_157 rfl ?_
    refine n_iald C (v := (nI ((RU A a b).getD i 0))) dX12_isUnionOfAtoms_159 rfl (by decide) (hP.2.1 _ (by omega)) ?_ (by omega)
    refine n_bipush C 6 dX12_isUnionOfAtoms_160 ?_
    refine n_ishr C dX12_isUnionOfAtoms_162 ?_
    refine n_i2l C dX12_isUnionOfAtoms_163 ?_ (by omega)
    refine g_callV C (As := [.long (lN (((RU A a b).getD i 0) / 2 ^ (6)))]) (k_ofStates _ hS hQ (by omega)) vo_X12_241 dX12_isUnionOfAtoms_164 rfl rfl (by decide) rfl (rm_ok (M' := MX12_isUnionOfAtoms) hR (by decide)) (Nat.le_of_ble_eq_true rfl) (fun v9 S9 h9 => ?_)
    obtain ⟨rfl, h9⟩ := h9
    refine g_S S h9 ?_
    refine g_n0 [.int (nI (ofS A a ((RU A a b).getD i 0 / 2 ^ 6))), .ref 75, .long (lN (1))] rfl rfl rfl ?_
    refine g_callV C (As := [.int (nI (ofS A a ((RU A a b).getD i 0 / 2 ^ 6)))]) (k_numberOf _ hS hA (ofS_lt hga)) vo_X12_251 dX12_isUnionOfAtoms_167 rfl rfl (by decide) rfl (rm_ok (M' := MX12_isUnionOfAtoms) hR (by decide)) (Nat.le_of_ble_eq_true rfl) (fun v9 S9 h9 => ?_)
    obtain ⟨rfl, h9⟩ := h9
    refine g_S S h9 ?_
    refine g_n0 [.int (nI (nU A a b i)), .long (lN (1))] rfl rfl rfl ?_
    refine n_lshl C dX12_isUnionOfAtoms_170 ?_ (by omega)
    refine g_lstore C (by rw [hmL]; decide) dX12_isUnionOfAtoms_171 [.ref 75, .int (nI (a)), .int (nI (b)), .long (lN (yU A a b (i))), unk, .long (lN (zU A a b (i))), unk, .int (nI (i)), .long (lN ((1) * 2 ^ (nU A a b i))), unk] rfl ?_
    refine g_lload_n C dX12_isUnionOfAtoms_173 rfl ?_
    refine g_aload_n C dX12_isUnionOfAtoms_174 rfl ?_
    refine g_getR C fo_X12_89 dX12_isUnionOfAtoms_175 rfl (by decide) (fun _ => rfl) (gs_75_39 hS) ?_
    refine g_iload C dX12_isUnionOfAtoms_178 rfl ?_
    refine n_iald C (v := (nI ((RU A a b).getD i 0))) dX12_isUnionOfAtoms_180 rfl (by decide) (hP.2.1 _ (by omega)) ?_ (by omega)
    refine n_iconst C 1 dX12_isUnionOfAtoms_181 ?_
    refine n_iand C dX12_isUnionOfAtoms_182 ?_
    refine n_iconst C 1 dX12_isUnionOfAtoms_183 ?_
    suffices K193 : GG x 106 0 0 [.ref 75, .int (nI (a)), .int (nI (b)), .long (lN (yU A a b (i))), unk, .long (lN (zU A a b (i))), unk, .int (nI (i)), .long (lN ((1) * 2 ^ (nU A a b i))), unk] [.long (lN (if ((RU A a b).getD i 0).testBit 0 then 1 * 2 ^ (nU A a b i) else 0)), .long (lN (yU A a b (i)))] S 193 from by
      refine n_ic_ne C 192 dX12_isUnionOfAtoms_184 (fun h184 => ?_) (fun h184 => ?_) (by decide) (Nat.lt_of_le_of_lt Nat.and_le_right (by decide)) (by decide)
      · refine n_lconst C 0 dX12_isUnionOfAtoms_192 ?_
        rw [if_neg (fun z => h184 ((tb0 _).mpr z))] at K193; exact K193
      · refine g_lload C dX12_isUnionOfAtoms_187 rfl ?_
        refine g_goto C 193 dX12_isUnionOfAtoms_189 (by decide) ?_
        rw [if_pos ((tb0 _).mp h184)] at K193; exact K193
    refine n_lor C dX12_isUnionOfAtoms_193 ?_
    refine g_lstore_n C (by rw [hmL]; decide) dX12_isUnionOfAtoms_194 [.ref 75, .int (nI (a)), .int (nI (b)), .long (lN ((yU A a b (i)) ||| (if ((RU A a b).getD i 0).testBit 0 then 1 * 2 ^ (nU A a b i) else 0))), unk, .long (lN (zU A a b (i))), unk, .int (nI (i)), .long (lN ((1) * 2 ^ (nU A a b i))), unk] rfl ?_
    rw [yU_1]
    refine g_lload C dX12_isUnionOfAtoms_195 rfl ?_
    refine g_aload_n C dX12_isUnionOfAtoms_197 rfl ?_
    refine g_getR C fo_X12_89 dX12_isUnionOfAtoms_198 rfl (by decide) (fun _ => rfl) (gs_75_39 hS) ?_
    refine g_iload C dX12_isUnionOfAtoms_201 rfl ?_
    refine n_iald C (v := (nI ((RU A a b).getD i 0))) dX12_isUnionOfAtoms_203 rfl (by decide) (hP.2.1 _ (by omega)) ?_ (by omega)
    refine n_iconst C 1 dX12_isUnionOfAtoms_204 ?_
    refine n_iand C dX12_isUnionOfAtoms_205 ?_
    refine n_iconst C 1 dX12_isUnionOfAtoms_206 ?_
    suffices K216 : GG x 106 0 0 [.ref 75, .int (nI (a)), .int (nI (b)), .long (lN (yU A a b (i + 1))), unk, .long (lN (zU A a b (i))), unk, .int (nI (i)), .long (lN ((1) * 2 ^ (nU A a b i))), unk] [.long (lN (if ((RU A a b).getD i 0).testBit 0 then 0 else 1 * 2 ^ (nU A a b i))), .long (lN (zU A a b (i)))] S 216 from by
      refine n_ic_ne C 214 dX12_isUnionOfAtoms_207 (fun h207 => ?_) (fun h207 => ?_) (by decide) (Nat.lt_of_le_of_lt Nat.and_le_right (by decide)) (by decide)
      · refine g_lload C dX12_isUnionOfAtoms_214 rfl ?_
        rw [if_neg (fun z => h207 ((tb0 _).mpr z))] at K216; exact K216
      · refine n_lconst C 0 dX12_isUnionOfAtoms_210 ?_
        refine g_goto C 216 dX12_isUnionOfAtoms_211 (by decide) ?_
        rw [if_pos ((tb0 _).mp h207)] at K216; exact K216
    refine n_lor C dX12_isUnionOfAtoms_216 ?_
    refine g_lstore C (by rw [hmL]; decide) dX12_isUnionOfAtoms_217 [.ref 75, .int (nI (a)), .int (nI (b)), .long (lN (yU A a b (i + 1))), unk, .long (lN ((zU A a b (i)) ||| (if ((RU A a b).getD i 0).testBit 0 then 0 else 1 * 2 ^ (nU A a b i)))), unk, .int (nI (i)), .long (lN ((1) * 2 ^ (nU A a b i))), unk] rfl ?_
    refine n_iinc C (by rw [hmL]; decide) dX12_isUnionOfAtoms_219 rfl (n_i1 _) [.ref 75, .int (nI (a)), .int (nI (b)), .long (lN (yU A a b (i + 1))), unk, .long (lN ((zU A a b (i)) ||| (if ((RU A a b).getD i 0).testBit 0 then 0 else 1 * 2 ^ (nU A a b i)))), unk, .int (nI (i + 1)), .long (lN ((1) * 2 ^ (nU A a b i))), unk] ?_
    refine g_goto C 141 dX12_isUnionOfAtoms_222 (by decide) ?_
    rw [zU_1]
    refine g_frg [.ref 75, .int (nI (a)), .int (nI (b)), .long (lN (yU A a b (i + 1))), unk, .long (lN (zU A a b (i + 1))), unk, .int (nI (i + 1)), unk, unk] ⟨Or.inr rfl, Or.inr rfl, Or.inr rfl, Or.inr rfl, Or.inl rfl, Or.inr rfl, Or.inl rfl, Or.inr rfl, Or.inl rfl, Or.inl rfl, trivial⟩ ?_
    exact ih (i + 1) (by omega)

set_option maxRecDepth 100000 in
theorem m_isUnionOfAtoms (l : Launch) {S : pv_M} {A : Ab} (hS : GS S) (hM : MSt S A) {a : Nat} (ha : a < 3) (hg : gdR (A.1.1 a)) {b : Nat} (hb : b < 3) (hgb : gdR (A.1.1 b)) : mt l MX12_isUnionOfAtoms 106 [.ref 75, .int (nI (a)), .int (nI (b))] S (fun v S' => v = some (.int (bI (decide ((yU A a b (RU A a b).length &&& zU A a b (RU A a b).length) = 0)))) ∧ mI S' 75 0 = nI 0 ∧ MSt S' A ∧ FN mC S S') := by
  refine mt_of (by decide) (Nat.le_of_ble_eq_true rfl) ?_
  intro x hl hR hmL C E
  show GG x 106 0 0 [.ref 75, .int (nI (a)), .int (nI (b)), unk, unk, unk, unk, unk, unk, unk] [] S 0
  subst hl
  refine g_iload_n C dX12_isUnionOfAtoms_0 rfl ?_
  refine g_callS C (k_isRegister _ ha) so_X12_106 dX12_isUnionOfAtoms_1 rfl rfl (rm_ok (M' := MX12_isUnionOfAtoms) hR (by decide)) (Nat.le_of_ble_eq_true rfl) (fun v9 S9 h9 => ?_)
  obtain ⟨rfl, h9⟩ := h9
  refine g_S S h9 ?_
  refine g_n0 [.int (bI (true))] rfl rfl rfl ?_
  refine b_if_eq C 14 dX12_isUnionOfAtoms_4 (fun h4 => absurd h4 (by decide)) (fun h4 => ?_)
  refine g_iload_n C dX12_isUnionOfAtoms_7 rfl ?_
  refine g_callS C (k_isRegister _ hb) so_X12_106 dX12_isUnionOfAtoms_8 rfl rfl (rm_ok (M' := MX12_isUnionOfAtoms) hR (by decide)) (Nat.le_of_ble_eq_true rfl) (fun v9 S9 h9 => ?_)
  obtain ⟨rfl, h9⟩ := h9
  refine g_S S h9 ?_
  refine g_n0 [.int (bI (true))] rfl rfl rfl ?_
  refine b_if_ne C 20 dX12_isUnionOfAtoms_11 (fun h11 => ?_) (fun h11 => absurd h11 (by decide))
  refine g_aload_n C dX12_isUnionOfAtoms_20 rfl ?_
  refine g_iload_n C dX12_isUnionOfAtoms_21 rfl ?_
  refine g_callV C (As := [.int (nI (a))]) (k_tellAtoms _ hS hM ha hg) vo_X12_244 dX12_isUnionOfAtoms_22 rfl rfl (by decide) rfl (rm_ok (M' := MX12_isUnionOfAtoms) hR (by decide)) (Nat.le_of_ble_eq_true rfl) (fun v9 S1 h9 => ?_)
  obtain ⟨rfl, q1, a1, t1⟩ := h9
  have hS1 : GS S1 := hS.fn t1.1.1
  have hM1 : MSt S1 A := hM.fs t1.1
  have h64 := a1.2.2.1
  refine g_n0 [] rfl rfl rfl ?_
  refine n_iconst C 0 dX12_isUnionOfAtoms_25 ?_
  refine g_istore_n C (by rw [hmL]; decide) dX12_isUnionOfAtoms_26 [.ref 75, .int (nI (a)), .int (nI (b)), .int (nI (0)), unk, unk, unk, unk, unk, unk] rfl ?_
  refine l1_iu hR hmL C (S0 := S1) (fun S2 hS2 hf2 h02 => ?_) 4096 0 S1 rfl hS1 FN.rf reg_0.symm
  have p2 : MP [] (wI S2 75 (va_up (mI S2 75) 40 (nI 0))) := ⟨rI_s, fun i hi => absurd hi (Nat.not_lt_zero _), fun p hp => by show mI S2 100 p = _; rw [h02, reg0 hp]; rfl, List.nodup_nil, fun p hp => absurd hp List.not_mem_nil⟩
  have t2 : FT S (wI S2 75 (va_up (mI S2 75) 40 (nI 0))) := (t1.tr (FT.fn hf2 (fun r z => by rw [z]; decide))).tr (FT.w75 (by decide))
  have hS3 := hS.fn t2.1.1
  have hM3 := hM.fs t2.1
  have e3 : ∀ k, k ≠ 40 → mI (wI S2 75 (va_up (mI S2 75) 40 (nI 0))) 75 k = mI S1 75 k := fun k hk => (rI_k hk rfl).trans (congrFun (hf2.2 75 (by decide)).1 k)
  refine g_aload_n C dX12_isUnionOfAtoms_47 rfl ?_
  refine n_iconst C 0 dX12_isUnionOfAtoms_48 ?_
  refine g_putI C fo_X12_268 dX12_isUnionOfAtoms_49 rfl (by decide) rfl ?_
  refine g_aload_n C dX12_isUnionOfAtoms_52 rfl ?_
  refine g_aload_n C dX12_isUnionOfAtoms_53 rfl ?_
  refine g_iload_n C dX12_isUnionOfAtoms_54 rfl ?_
  refine g_callV C (As := [.int (nI (a))]) (k_finalsOf _ hS3 hM3 ha hg) vo_X12_271 dX12_isUnionOfAtoms_55 rfl rfl (by decide) rfl (rm_ok (M' := MX12_isUnionOfAtoms) hR (by decide)) (Nat.le_of_ble_eq_true rfl) (fun v9 S5 h9 => ?_)
  obtain ⟨rfl, h9⟩ := h9
  refine g_S (wI S2 75 (va_up (mI S2 75) 40 (nI (0)))) h9 ?_
  refine g_n0 [.int (nI (k6 A a)), .ref 75] rfl rfl rfl ?_
  refine g_aload_n C dX12_isUnionOfAtoms_58 rfl ?_
  refine g_iload_n C dX12_isUnionOfAtoms_59 rfl ?_
  refine g_callV C (As := [.int (nI (b))]) (k_finalsOf _ hS3 hM3 hb hgb) vo_X12_271 dX12_isUnionOfAtoms_60 rfl rfl (by decide) rfl (rm_ok (M' := MX12_isUnionOfAtoms) hR (by decide)) (Nat.le_of_ble_eq_true rfl) (fun v9 S5 h9 => ?_)
  obtain ⟨rfl, h9⟩ := h9
  refine g_S (wI S2 75 (va_up (mI S2 75) 40 (nI (0)))) h9 ?_
  refine g_n0 [.int (nI (k6 A b)), .int (nI (k6 A a)), .ref 75] rfl rfl rfl ?_
  refine g_callV C (As := [.int (nI (k6 A a)), .int (nI (k6 A b))]) (k_meets _ hS3 p2 (lt64_n hg (pw_n (Nat.le_refl _))) (lt64_n hgb (pw_n (Nat.le_refl _)))) vo_X12_274 dX12_isUnionOfAtoms_63 rfl rfl (by decide) rfl (rm_ok (M' := MX12_isUnionOfAtoms) hR (by decide)) (Nat.le_of_ble_eq_true rfl) (fun v9 S4 h9 => ?_)
  obtain ⟨rfl, m1, m2⟩ := h9
  have hS4 := hS3.fn m2.1
  have hM4 := hM3.fs m2.ft.1
  refine g_n0 [] rfl rfl rfl ?_
  refine n_iconst C 0 dX12_isUnionOfAtoms_66 ?_
  refine g_istore_n C (by rw [hmL]; decide) dX12_isUnionOfAtoms_67 [.ref 75, .int (nI (a)), .int (nI (b)), .int (nI (0)), unk, unk, unk, unk, unk, unk] rfl ?_
  refine l3_iu hR hmL C hM4 ha hg hb hgb (fun S6 i hS6 hP6 hf6 => ?_) 4096 0 S4 _ rfl (Nat.zero_le _) hS4 m1 FU.rf rfl
  have f6 : FU (wI S2 75 (va_up (mI S2 75) 40 (nI 0))) S6 := m2.tr hf6
  have t6 : FT S S6 := t2.tr f6.ft
  have hM6 := hM.fs t6.1
  have q6 : QA (cQ A a) (qS A a) S6 := q1.keep ((f6.2 30 (by decide)).trans (e3 30 (by decide))) ((f6.1.2 95 (by decide)).1.trans (hf2.2 95 (by decide)).1)
  have a6_ : AT (AL A a) S6 := a1.keep ((f6.2 33 (by decide)).trans (e3 33 (by decide))) ((f6.1.2 96 (by decide)).1.trans (hf2.2 96 (by decide)).1)
  refine n_lconst C 0 dX12_isUnionOfAtoms_133 ?_
  refine g_lstore_n C (by rw [hmL]; decide) dX12_isUnionOfAtoms_134 [.ref 75, .int (nI (a)), .int (nI (b)), .long (lN (0)), unk, unk, unk, unk, unk, unk] rfl ?_
  refine n_lconst C 0 dX12_isUnionOfAtoms_135 ?_
  refine g_lstore C (by rw [hmL]; decide) dX12_isUnionOfAtoms_136 [.ref 75, .int (nI (a)), .int (nI (b)), .long (lN (0)), unk, .long (lN (0)), unk, unk, unk, unk] rfl ?_
  refine n_iconst C 0 dX12_isUnionOfAtoms_138 ?_
  refine g_istore C (by rw [hmL]; decide) dX12_isUnionOfAtoms_139 [.ref 75, .int (nI (a)), .int (nI (b)), .long (lN (0)), unk, .long (lN (0)), unk, .int (nI (0)), unk, unk] rfl ?_
  refine l4_iu hR hmL C hS6 hg hgb hP6 q6 a6_ ?_ (RU A a b).length 0 (Nat.zero_add _)
  have hy64 : yU A a b (RU A a b).length < 2 ^ 64 := orf_lt (B := 64) _ (fun s hs _ => Nat.pow_lt_pow_right (by decide) (Nat.lt_of_lt_of_le (idx_lt ((AL_mem hg).mpr ⟨_, (RU_fst hg hgb (getD_mem hs)).1, rfl⟩)) AL_len))
  refine g_aload_n C dX12_isUnionOfAtoms_225 rfl ?_
  refine g_lload_n C dX12_isUnionOfAtoms_226 rfl ?_
  refine g_lload C dX12_isUnionOfAtoms_227 rfl ?_
  refine n_land C dX12_isUnionOfAtoms_229 ?_
  refine n_lconst C 0 dX12_isUnionOfAtoms_230 ?_
  refine g_lcmp C dX12_isUnionOfAtoms_231 ?_
  suffices K240 : GG x 106 0 0 [.ref 75, .int (nI (a)), .int (nI (b)), .long (lN (yU A a b ((RU A a b).length))), unk, .long (lN (zU A a b ((RU A a b).length))), unk, .int (nI ((RU A a b).length)), unk, unk] [.int (bI (decide ((yU A a b (RU A a b).length &&& zU A a b (RU A a b).length) = 0))), .ref 75] S6 240 from by
    refine c_if_ne C 239 dX12_isUnionOfAtoms_232 (fun h232 => ?_) (fun h232 => ?_) (by decide) (Nat.lt_of_le_of_lt Nat.and_le_left hy64) (by decide)
    · refine n_iconst C 0 dX12_isUnionOfAtoms_239 ?_
      rw [decide_eq_false h232] at K240; exact K240
    · refine n_iconst C 1 dX12_isUnionOfAtoms_235 ?_
      refine g_goto C 240 dX12_isUnionOfAtoms_236 (by decide) ?_
      rw [decide_eq_true h232] at K240; exact K240
  refine g_callV C (As := [.int (bI (decide ((yU A a b (RU A a b).length &&& zU A a b (RU A a b).length) = 0)))]) (k_so _ hS6) vo_X12_128 dX12_isUnionOfAtoms_240 rfl rfl (by decide) rfl (rm_ok (M' := MX12_isUnionOfAtoms) hR (by decide)) (Nat.le_of_ble_eq_true rfl) (fun v9 S9 h9 => ?_)
  obtain ⟨rfl, h9⟩ := h9
  refine g_S (wI S6 75 (va_up (mI S6 75) 0 (nI 0))) h9 ?_
  refine g_n0 [.int (bI (decide ((yU A a b (RU A a b).length &&& zU A a b (RU A a b).length) = 0)))] rfl rfl rfl ?_
  exact g_zret C E dX12_isUnionOfAtoms_243 (bI_01 _) (by rw [hR]; decide) (by rw [hR]; decide) ⟨rfl, th_0, hM6.fs th_fs, t6.1.mC.tr th_fs.mC⟩
  
  
  

set_option maxRecDepth 100000 in
theorem m_isUnionOfAtoms_r (l : Launch) {S : pv_M} {p : Int32} (hS : GS S) (h : badI p 3) {q : Int32} : mt l MX12_isUnionOfAtoms 106 [.ref 75, .int (p), .int (q)] S (fun v S' => v = some (.int (bI false)) ∧ S' = th S 1) := by
  refine mt_of (by decide) (Nat.le_of_ble_eq_true rfl) ?_
  intro x hl hR hmL C E
  show GG x 106 0 0 [.ref 75, .int (p), .int (q), unk, unk, unk, unk, unk, unk, unk] [] S 0
  refine g_iload_n C dX12_isUnionOfAtoms_0 rfl ?_
  refine g_callS C (k_isRegisterF _ h) so_X12_106 dX12_isUnionOfAtoms_1 rfl rfl (rm_ok (M' := MX12_isUnionOfAtoms) hR (by decide)) (Nat.le_of_ble_eq_true rfl) (fun v9 S9 h9 => ?_)
  obtain ⟨rfl, h9⟩ := h9
  refine g_S S h9 ?_
  refine g_n0 [.int (bI (false))] rfl rfl rfl ?_
  refine b_if_eq C 14 dX12_isUnionOfAtoms_4 (fun h4 => ?_) (fun h4 => absurd h4 (by decide))
  refine g_aload_n C dX12_isUnionOfAtoms_14 rfl ?_
  refine n_iconst C 1 dX12_isUnionOfAtoms_15 ?_
  refine g_callV C (As := [.int (nI (1))]) (k_not _ hS) vo_X12_125 dX12_isUnionOfAtoms_16 rfl rfl (by decide) rfl (rm_ok (M' := MX12_isUnionOfAtoms) hR (by decide)) (Nat.le_of_ble_eq_true rfl) (fun v9 S9 h9 => ?_)
  obtain ⟨rfl, h9⟩ := h9
  refine g_S (wI S 75 (va_up (mI S 75) 0 (nI 1))) h9 ?_
  refine g_n0 [.int (bI (false))] rfl rfl rfl ?_
  exact g_zret C E dX12_isUnionOfAtoms_19 (bI_01 _) (by rw [hR]; decide) (by rw [hR]; decide) ⟨rfl, rfl⟩

set_option maxRecDepth 100000 in
theorem m_isUnionOfAtoms_t (l : Launch) {S : pv_M} {a : Nat} {p : Int32} (hS : GS S) (ha : a < 3) (h : badI p 3) : mt l MX12_isUnionOfAtoms 106 [.ref 75, .int (nI (a)), .int (p)] S (fun v S' => v = some (.int (bI false)) ∧ S' = th S 1) := by
  refine mt_of (by decide) (Nat.le_of_ble_eq_true rfl) ?_
  intro x hl hR hmL C E
  show GG x 106 0 0 [.ref 75, .int (nI (a)), .int (p), unk, unk, unk, unk, unk, unk, unk] [] S 0
  refine g_iload_n C dX12_isUnionOfAtoms_0 rfl ?_
  refine g_callS C (k_isRegister _ ha) so_X12_106 dX12_isUnionOfAtoms_1 rfl rfl (rm_ok (M' := MX12_isUnionOfAtoms) hR (by decide)) (Nat.le_of_ble_eq_true rfl) (fun v9 S9 h9 => ?_)
  obtain ⟨rfl, h9⟩ := h9
  refine g_S S h9 ?_
  refine g_n0 [.int (bI (true))] rfl rfl rfl ?_
  refine b_if_eq C 14 dX12_isUnionOfAtoms_4 (fun h4 => absurd h4 (by decide)) (fun h4 => ?_)
  refine g_iload_n C dX12_isUnionOfAtoms_7 rfl ?_
  refine g_callS C (k_isRegisterF _ h) so_X12_106 dX12_isUnionOfAtoms_8 rfl rfl (rm_ok (M' := MX12_isUnionOfAtoms) hR (by decide)) (Nat.le_of_ble_eq_true rfl) (fun v9 S9 h9 => ?_)
  obtain ⟨rfl, h9⟩ := h9
  refine g_S S h9 ?_
  refine g_n0 [.int (bI (false))] rfl rfl rfl ?_
  refine b_if_ne C 20 dX12_isUnionOfAtoms_11 (fun h11 => absurd h11 (by decide)) (fun h11 => ?_)
  refine g_aload_n C dX12_isUnionOfAtoms_14 rfl ?_
  refine n_iconst C 1 dX12_isUnionOfAtoms_15 ?_
  refine g_callV C (As := [.int (nI (1))]) (k_not _ hS) vo_X12_125 dX12_isUnionOfAtoms_16 rfl rfl (by decide) rfl (rm_ok (M' := MX12_isUnionOfAtoms) hR (by decide)) (Nat.le_of_ble_eq_true rfl) (fun v9 S9 h9 => ?_)
  obtain ⟨rfl, h9⟩ := h9
  refine g_S (wI S 75 (va_up (mI S 75) 0 (nI 1))) h9 ?_
  refine g_n0 [.int (bI (false))] rfl rfl rfl ?_
  exact g_zret C E dX12_isUnionOfAtoms_19 (bI_01 _) (by rw [hR]; decide) (by rw [hR]; decide) ⟨rfl, rfl⟩
