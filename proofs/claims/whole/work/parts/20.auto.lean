set_option maxRecDepth 100000 in
theorem c_X1_codeBound (l : Launch) {S : pv_M} {a : Nat} : mt l MX1_codeBound 106 [.ref a] S (fun v S' => v = some (.int (nI 6)) ∧ S' = S) := by
  refine mt_of (by decide) (Nat.le_of_ble_eq_true rfl) ?_
  intro x hl hR hmL C E
  show GG x 106 0 0 [.ref a] [] S 0
  refine n_bipush C 6 dX1_codeBound_0 ?_
  exact g_iret C E dX1_codeBound_2 (by rw [hR]; decide) (by rw [hR]; decide) ⟨rfl, rfl⟩

set_option maxRecDepth 100000 in
theorem c_X1_startCode (l : Launch) {S : pv_M} {a : Nat} : mt l MX1_startCode 106 [.ref a] S (fun v S' => v = some (.int (nI 0)) ∧ S' = S) := by
  refine mt_of (by decide) (Nat.le_of_ble_eq_true rfl) ?_
  intro x hl hR hmL C E
  show GG x 106 0 0 [.ref a] [] S 0
  refine n_iconst C 0 dX1_startCode_0 ?_
  exact g_iret C E dX1_startCode_1 (by rw [hR]; decide) (by rw [hR]; decide) ⟨rfl, rfl⟩

set_option maxRecDepth 100000 in
theorem c_X1_follow (l : Launch) {a t n F : Nat} {T : Nat → Nat} {S : pv_M} (hA : AutoAt S a t n T F) {s q : Nat} (h1 : s * 3 + q < 18) : mt l MX1_follow 106 [.ref a, .int (nI (s)), .int (nI (q))] S (fun v S' => v = some (.int (nI (T (s * 3 + q)))) ∧ S' = S) := by
  refine mt_of (by decide) (Nat.le_of_ble_eq_true rfl) ?_
  intro x hl hR hmL C E
  show GG x 106 0 0 [.ref a, .int (nI (s)), .int (nI (q))] [] S 0
  obtain ⟨ha, la, hs, lt, ht, hn, hF, hT⟩ := id hA
  refine g_aload_n C dX1_follow_0 rfl ?_
  refine g_getR C fo_X1_15 dX1_follow_1 ha la (fun _ => rfl) ht ?_
  refine g_iload_n C dX1_follow_4 rfl ?_
  refine n_iconst C 3 dX1_follow_5 ?_
  refine n_imul C dX1_follow_6 ?_
  refine g_iload_n C dX1_follow_7 rfl ?_
  refine n_iadd C dX1_follow_8 ?_
  refine n_iald C dX1_follow_9 hs lt (hT _ (by omega)) ?_ (by omega)
  exact g_iret C E dX1_follow_10 (by rw [hR]; decide) (by rw [hR]; decide) ⟨rfl, rfl⟩

set_option maxRecDepth 100000 in
theorem c_X1_lead (l : Launch) {a t n F : Nat} {T : Nat → Nat} {S : pv_M} (hA : AutoAt S a t n T F) {s q v : Nat} (h1 : s * 3 + q < 18) : mt l MX1_lead 106 [.ref a, .int (nI (s)), .int (nI (q)), .int (nI (v))] S (fun w S' => w = none ∧ AutoAt S' a t n (va_up T (s * 3 + q) v) F ∧ FN (two a t) S S') := by
  refine mt_of (by decide) (Nat.le_of_ble_eq_true rfl) ?_
  intro x hl hR hmL C E
  show GG x 106 0 0 [.ref a, .int (nI (s)), .int (nI (q)), .int (nI (v))] [] S 0
  obtain ⟨ha, la, hs, lt, ht, hn, hF, hT⟩ := id hA
  refine g_aload_n C dX1_lead_0 rfl ?_
  refine g_getR C fo_X1_15 dX1_lead_1 ha la (fun _ => rfl) ht ?_
  refine g_iload_n C dX1_lead_4 rfl ?_
  refine n_iconst C 3 dX1_lead_5 ?_
  refine n_imul C dX1_lead_6 ?_
  refine g_iload_n C dX1_lead_7 rfl ?_
  refine n_iadd C dX1_lead_8 ?_
  refine g_iload_n C dX1_lead_9 rfl ?_
  refine g_iast C dX1_lead_10 hs lt (by omega) rfl ?_
  exact g_vret C E dX1_lead_11 (by rw [hR]; decide) (by rw [hR]; decide) ⟨rfl, hA.putT, FN.wI (Or.inr rfl)⟩

set_option maxRecDepth 100000 in
theorem c_X1_isAccepting (l : Launch) {a t n F : Nat} {T : Nat → Nat} {S : pv_M} (hA : AutoAt S a t n T F) {s : Nat} (h2 : F < 64) (h3 : s < 6) : mt l MX1_isAccepting 106 [.ref a, .int (nI (s))] S (fun v S' => v = some (.int (bI (F.testBit s))) ∧ S' = S) := by
  refine mt_of (by decide) (Nat.le_of_ble_eq_true rfl) ?_
  intro x hl hR hmL C E
  show GG x 106 0 0 [.ref a, .int (nI (s))] [] S 0
  obtain ⟨ha, la, hs, lt, ht, hn, hF, hT⟩ := id hA
  have h4 : (F / 2 ^ s) &&& 1 < 2 ^ 31 := Nat.lt_of_le_of_lt Nat.and_le_right (by decide)
  refine g_aload_n C dX1_isAccepting_0 rfl ?_
  refine g_getI C fo_X1_19 dX1_isAccepting_1 ha la (fun _ => rfl) hF ?_
  refine g_iload_n C dX1_isAccepting_4 rfl ?_
  refine n_ishr C dX1_isAccepting_5 ?_
  refine n_iconst C 1 dX1_isAccepting_6 ?_
  refine n_iand C dX1_isAccepting_7 ?_
  refine n_iconst C 1 dX1_isAccepting_8 ?_
  suffices K17 : GG x 106 0 0 [.ref a, .int (nI (s))] [.int (bI (F.testBit s))] S 17 from by
    refine n_ic_ne C 16 dX1_isAccepting_9 (fun h9 => ?_) (fun h9 => ?_)
    · refine n_iconst C 0 dX1_isAccepting_16 ?_
      rw [show F.testBit s = false from Bool.eq_false_iff.mpr (fun q => h9 ((tb_and F s).mpr q))] at K17
      exact K17
    · refine n_iconst C 1 dX1_isAccepting_12 ?_
      refine g_goto C 17 dX1_isAccepting_13 (by decide) ?_
      rw [(tb_and F s).mp h9] at K17
      exact K17
  exact g_zret C E dX1_isAccepting_17 (bI_01 _) (by rw [hR]; decide) (by rw [hR]; decide) ⟨rfl, rfl⟩

set_option maxRecDepth 100000 in
theorem lp_X1_clear {x : Cx} (hR : xR x = MX1_clear.rm) (hmL : (xc x).maxLocals = MX1_clear.nL) (C : BX x cX1_clear RX1) {a t v F : Nat} {S0 : pv_M} (k : ∀ S, AutoAt S a t v (fun _ => 0) F → FN (two a t) S0 S → GG x 106 0 0 [.ref a, .int (nI (v)), .int (nI (18))] [] (S) 31) : ∀ m i (T : Nat → Nat) (S : pv_M), i + m = 18 → AutoAt S a t v T F → FN (two a t) S0 S → (∀ j, j < i → T j = 0) → GG x 106 0 0 [.ref a, .int (nI (v)), .int (nI (i))] [] (S) 12 := by
  intro m
  induction m with
  | zero =>
    intro i T S hi hA hf hz
    obtain rfl : i = 18 := by omega
    refine g_iload_n C dX1_clear_12 rfl ?_
    refine n_bipush C 18 dX1_clear_13 ?_
    refine n_ic_ge C 31 dX1_clear_15 (fun h15 => ?_) (fun h15 => absurd h15 (by omega))
    exact k S (hA.ext hz) hf
  | succ m ih =>
    intro i T S hi hA hf hz
    refine g_iload_n C dX1_clear_12 rfl ?_
    refine n_bipush C 18 dX1_clear_13 ?_
    refine n_ic_ge C 31 dX1_clear_15 (fun h15 => absurd h15 (by omega)) (fun h15 => ?_)
    refine g_aload_n C dX1_clear_18 rfl ?_
    refine g_getR C fo_X1_15 dX1_clear_19 hA.1 hA.2.1 (fun _ => rfl) hA.2.2.2.2.1 ?_
    refine g_iload_n C dX1_clear_22 rfl ?_
    refine n_iconst C 0 dX1_clear_23 ?_
    refine g_iast C dX1_clear_24 hA.2.2.1 hA.2.2.2.1 (by omega) rfl ?_
    refine n_iinc C (by rw [hmL]; decide) dX1_clear_25 rfl (n_i1 _) [.ref a, .int (nI (v)), .int (nI (i + 1))] ?_
    refine g_goto C 12 dX1_clear_28 (by decide) ?_
    refine ih (i + 1) _ _ (by omega) hA.putT (hf.tr (FN.wI (Or.inr rfl))) (fun j hj => ?_)
    by_cases e : j = i
    · subst e; simp [va_up]
    · rw [va_up_ne _ _ e]; exact hz j (by omega)

set_option maxRecDepth 100000 in
theorem c_X1_clear (l : Launch) {a t n F : Nat} {T : Nat → Nat} {S : pv_M} (hA : AutoAt S a t n T F) {v : Nat} : mt l MX1_clear 106 [.ref a, .int (nI (v))] S (fun w S' => w = none ∧ AutoAt S' a t v (fun _ => 0) 0 ∧ FN (two a t) S S') := by
  refine mt_of (by decide) (Nat.le_of_ble_eq_true rfl) ?_
  intro x hl hR hmL C E
  show GG x 106 0 0 [.ref a, .int (nI (v)), unk] [] S 0
  obtain ⟨ha, la, hs, lt, ht, hn, hF, hT⟩ := id hA
  refine g_aload_n C dX1_clear_0 rfl ?_
  refine g_iload_n C dX1_clear_1 rfl ?_
  refine g_putI C fo_X1_9 dX1_clear_2 ha la rfl ?_
  refine g_aload_n C dX1_clear_5 rfl ?_
  refine n_iconst C 0 dX1_clear_6 ?_
  refine g_putI C fo_X1_19 dX1_clear_7 ha la rfl ?_
  refine n_iconst C 0 dX1_clear_10 ?_
  refine g_istore_n C (by rw [hmL]; decide) dX1_clear_11 [.ref a, .int (nI (v)), .int (nI (0))] rfl ?_
  exact lp_X1_clear hR hmL C (fun S hS hf => g_vret C E dX1_clear_31 (by rw [hR]; decide) (by rw [hR]; decide) ⟨rfl, hS, hf⟩) 18 0 T _ rfl hA.putN.putF ((FN.wI (Or.inl rfl)).tr (FN.wI (Or.inl rfl))) (fun j hj => absurd hj (Nat.not_lt_zero j))

set_option maxRecDepth 100000 in
theorem c_X1_mark (l : Launch) {a t n F : Nat} {T : Nat → Nat} {S : pv_M} (hA : AutoAt S a t n T F) {s : Nat} {c : Bool} (h2 : F < 64) (h3 : s < 6) : mt l MX1_mark 106 [.ref a, .int (nI (s)), .int (bI (c))] S (fun v S' => v = none ∧ AutoAt S' a t n T (fset F s c) ∧ FN (two a t) S S') := by
  refine mt_of (by decide) (Nat.le_of_ble_eq_true rfl) ?_
  intro x hl hR hmL C E
  show GG x 106 0 0 [.ref a, .int (nI (s)), .int (bI (c))] [] S 0
  obtain ⟨ha, la, hs, lt, ht, hn, hF, hT⟩ := id hA
  refine g_aload_n C dX1_mark_0 rfl ?_
  refine g_iload_n C dX1_mark_1 rfl ?_
  suffices K26 : GG x 106 0 0 [.ref a, .int (nI (s)), .int (bI (c))] [.int (nI (fset F s c)), .ref a] S 26 from by
    refine b_if_eq C 16 dX1_mark_2 (fun h2_ => ?_) (fun h2_ => ?_)
    · refine g_aload_n C dX1_mark_16 rfl ?_
      refine g_getI C fo_X1_19 dX1_mark_17 ha la (fun _ => rfl) hF ?_
      refine n_iconst C 1 dX1_mark_20 ?_
      refine g_iload_n C dX1_mark_21 rfl ?_
      refine n_ishl C dX1_mark_22 ?_ (by omega) (pow6 s h3)
      refine g_iconst C (-1) dX1_mark_23 (by decide) ?_
      refine g_ixor C dX1_mark_24 ?_
      refine g_iand C dX1_mark_25 ?_
      rw [show fset F s c = (F ||| 2 ^ s) - 2 ^ s by rw [h2_]; rfl, ← fset_clr F h2 s h3] at K26
      exact K26
    · refine g_aload_n C dX1_mark_5 rfl ?_
      refine g_getI C fo_X1_19 dX1_mark_6 ha la (fun _ => rfl) hF ?_
      refine n_iconst C 1 dX1_mark_9 ?_
      refine g_iload_n C dX1_mark_10 rfl ?_
      refine n_ishl C dX1_mark_11 ?_ (by omega) (pow6 s h3)
      refine n_ior C dX1_mark_12 ?_
      refine g_goto C 26 dX1_mark_13 (by decide) ?_
      rw [show fset F s c = F ||| (1 * 2 ^ s) by rw [h2_, pow_one]; rfl] at K26
      exact K26
  refine g_putI C fo_X1_19 dX1_mark_26 ha la rfl ?_
  exact g_vret C E dX1_mark_29 (by rw [hR]; decide) (by rw [hR]; decide) ⟨rfl, hA.putF, FN.wI (Or.inl rfl)⟩
