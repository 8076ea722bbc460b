set_option maxRecDepth 100000 in
theorem lp_X1_drawAll_4 {x : Cx} (hR : xR x = MX1_drawAll.rm) (hmL : (xc x).maxLocals = MX1_drawAll.nL) (C : BX x cX1_drawAll RX1) {a t n F : Nat} {T0 : Nat → Nat} {S0 : pv_M} {seed : Int32} (h0 : 0 < n) (h6 : n ≤ 6) (k : ∀ S T, AutoAt S a t n T F → FN (two a t) S0 S → (∀ j, j < 18 → T j = if j < n * 3 then dv seed j n else T0 j) → GG x 106 0 0 [.ref a, .int (seed), .int (drw seed (n * 3)), .int (nI (n * 3))] [] (S) 39) : ∀ d i (T : Nat → Nat) (S : pv_M), i + d = n * 3 → AutoAt S a t n T F → FN (two a t) S0 S → (∀ j, j < 18 → T j = if j < i then dv seed j n else T0 j) → GG x 106 0 0 [.ref a, .int (seed), .int (drw seed (i)), .int (nI (i))] [] (S) 4 := by
  intro d
  induction d with
  | zero =>
    intro i T S hi hA hf hz
    obtain rfl : i = n * 3 := by omega
    refine g_iload_n C dX1_drawAll_4 rfl ?_
    refine g_aload_n C dX1_drawAll_5 rfl ?_
    refine g_getI C fo_X1_9 dX1_drawAll_6 hA.1 hA.2.1 (fun _ => rfl) hA.2.2.2.2.2.1 ?_
    refine n_iconst C 3 dX1_drawAll_9 ?_
    refine n_imul C dX1_drawAll_10 ?_
    refine n_ic_ge C 39 dX1_drawAll_11 (fun h11 => ?_) (fun h11 => absurd h11 (by omega))
    exact k S T hA hf hz
  | succ d ih =>
    intro i T S hi hA hf hz
    refine g_iload_n C dX1_drawAll_4 rfl ?_
    refine g_aload_n C dX1_drawAll_5 rfl ?_
    refine g_getI C fo_X1_9 dX1_drawAll_6 hA.1 hA.2.1 (fun _ => rfl) hA.2.2.2.2.2.1 ?_
    refine n_iconst C 3 dX1_drawAll_9 ?_
    refine n_imul C dX1_drawAll_10 ?_
    refine n_ic_ge C 39 dX1_drawAll_11 (fun h11 => absurd h11 (by omega)) (fun h11 => ?_)
    refine g_iload_n C dX1_drawAll_14 rfl ?_
    refine g_callS C (c_X1_nextValue _) so_X1_40 dX1_drawAll_15 rfl rfl (rm_ok (M' := MX1_drawAll) hR (by decide)) (Nat.le_of_ble_eq_true rfl) (fun v9 S9 h9 => ?_)
    obtain ⟨rfl, h9⟩ := h9
    refine g_S S h9 ?_
    refine g_n0 [.int (drw seed (i + 1))] rfl rfl rfl ?_
    refine g_istore_n C (by rw [hmL]; decide) dX1_drawAll_18 [.ref a, .int (seed), .int (drw seed (i + 1)), .int (nI (i))] rfl ?_
    refine g_aload_n C dX1_drawAll_19 rfl ?_
    refine g_getR C fo_X1_15 dX1_drawAll_20 hA.1 hA.2.1 (fun _ => rfl) hA.2.2.2.2.1 ?_
    refine g_iload_n C dX1_drawAll_23 rfl ?_
    refine g_iload_n C dX1_drawAll_24 rfl ?_
    refine g_aload_n C dX1_drawAll_25 rfl ?_
    refine g_getI C fo_X1_9 dX1_drawAll_26 hA.1 hA.2.1 (fun _ => rfl) hA.2.2.2.2.2.1 ?_
    refine g_callS C (c_X1_draw _ h0 (by omega)) so_X1_44 dX1_drawAll_29 rfl rfl (rm_ok (M' := MX1_drawAll) hR (by decide)) (Nat.le_of_ble_eq_true rfl) (fun v9 S9 h9 => ?_)
    obtain ⟨rfl, h9⟩ := h9
    refine g_S S h9 ?_
    refine g_n0 [.int (nI (dv seed i n)), .int (nI (i)), .ref t] rfl rfl rfl ?_
    refine g_iast C dX1_drawAll_32 hA.2.2.1 hA.2.2.2.1 (by omega) rfl ?_
    refine n_iinc C (by rw [hmL]; decide) dX1_drawAll_33 rfl (n_i1 _) [.ref a, .int (seed), .int (drw seed (i + 1)), .int (nI (i + 1))] ?_
    refine g_goto C 4 dX1_drawAll_36 (by decide) ?_
    refine ih (i + 1) _ _ (by omega) hA.putT (hf.tr (FN.wI (Or.inr rfl))) (fun j hj => ?_)
    by_cases e : j = i
    · subst e; simp [va_up]
    · rw [va_up_ne _ _ e, hz j hj]
      by_cases e2 : j < i
      · rw [if_pos e2, if_pos (by omega)]
      · rw [if_neg e2, if_neg (by omega)]

set_option maxRecDepth 100000 in
theorem lp_X1_drawAll_41 {x : Cx} (hR : xR x = MX1_drawAll.rm) (hmL : (xc x).maxLocals = MX1_drawAll.nL) (C : BX x cX1_drawAll RX1) {a t n F0 : Nat} {T : Nat → Nat} {S0 : pv_M} {seed : Int32} (h0 : 0 < n) (h6 : n ≤ 6) (k : ∀ S F, AutoAt S a t n T F → FN (two a t) S0 S → (F < 64 ∧ ∀ j, j < 6 → F.testBit j = if j < n then decide (dv seed (n * 3 + j) 2 = 1) else F0.testBit j) → GG x 106 0 0 [.ref a, .int (seed), .int (drw seed (n * 3 + (n))), .int (nI (n))] [] (S) 79) : ∀ d i F (S : pv_M), i + d = n → AutoAt S a t n T F → FN (two a t) S0 S → (F < 64 ∧ ∀ j, j < 6 → F.testBit j = if j < i then decide (dv seed (n * 3 + j) 2 = 1) else F0.testBit j) → GG x 106 0 0 [.ref a, .int (seed), .int (drw seed (n * 3 + (i))), .int (nI (i))] [] (S) 41 := by
  intro d
  induction d with
  | zero =>
    intro i F S hi hA hf hz
    obtain rfl : i = n := by omega
    refine g_iload_n C dX1_drawAll_41 rfl ?_
    refine g_aload_n C dX1_drawAll_42 rfl ?_
    refine g_getI C fo_X1_9 dX1_drawAll_43 hA.1 hA.2.1 (fun _ => rfl) hA.2.2.2.2.2.1 ?_
    refine n_ic_ge C 79 dX1_drawAll_46 (fun h46 => ?_) (fun h46 => absurd h46 (by omega))
    exact k S F hA hf hz
  | succ d ih =>
    intro i F S hi hA hf hz
    have h2v : dv seed (n * 3 + i) 2 < 2 := dv_lt (by decide)
    refine g_iload_n C dX1_drawAll_41 rfl ?_
    refine g_aload_n C dX1_drawAll_42 rfl ?_
    refine g_getI C fo_X1_9 dX1_drawAll_43 hA.1 hA.2.1 (fun _ => rfl) hA.2.2.2.2.2.1 ?_
    refine n_ic_ge C 79 dX1_drawAll_46 (fun h46 => absurd h46 (by omega)) (fun h46 => ?_)
    refine g_iload_n C dX1_drawAll_49 rfl ?_
    refine g_callS C (c_X1_nextValue _) so_X1_40 dX1_drawAll_50 rfl rfl (rm_ok (M' := MX1_drawAll) hR (by decide)) (Nat.le_of_ble_eq_true rfl) (fun v9 S9 h9 => ?_)
    obtain ⟨rfl, h9⟩ := h9
    refine g_S S h9 ?_
    refine g_n0 [.int (drw seed (n * 3 + (i + 1)))] rfl rfl rfl ?_
    refine g_istore_n C (by rw [hmL]; decide) dX1_drawAll_53 [.ref a, .int (seed), .int (drw seed (n * 3 + (i + 1))), .int (nI (i))] rfl ?_
    refine g_aload_n C dX1_drawAll_54 rfl ?_
    refine g_iload_n C dX1_drawAll_55 rfl ?_
    refine g_iload_n C dX1_drawAll_56 rfl ?_
    refine n_iconst C 2 dX1_drawAll_57 ?_
    refine g_callS C (c_X1_draw (k := n * 3 + i) _ (by decide) (by decide)) so_X1_44 dX1_drawAll_58 rfl rfl (rm_ok (M' := MX1_drawAll) hR (by decide)) (Nat.le_of_ble_eq_true rfl) (fun v9 S9 h9 => ?_)
    obtain ⟨rfl, h9⟩ := h9
    refine g_S S h9 ?_
    refine g_n0 [.int (nI (dv seed (n * 3 + i) 2)), .int (nI (i)), .ref a] rfl rfl rfl ?_
    refine n_iconst C 1 dX1_drawAll_61 ?_
    suffices K70 : GG x 106 0 0 [.ref a, .int (seed), .int (drw seed (n * 3 + (i + 1))), .int (nI (i))] [.int (bI (decide (dv seed (n * 3 + i) 2 = 1))), .int (nI (i)), .ref a] S 70 from by
      refine n_ic_ne C 69 dX1_drawAll_62 (fun h62 => ?_) (fun h62 => ?_)
      · refine n_iconst C 0 dX1_drawAll_69 ?_
        rw [decide_eq_false h62] at K70
        exact K70
      · refine n_iconst C 1 dX1_drawAll_65 ?_
        refine g_goto C 70 dX1_drawAll_66 (by decide) ?_
        rw [decide_eq_true h62] at K70
        exact K70
    refine g_callV C (As := [.int (nI (i)), .int (bI (decide (dv seed (n * 3 + i) 2 = 1)))]) (c_X1_mark (s := i) _ hA hz.1 (by omega)) vo_X1_47 dX1_drawAll_70 rfl hA.1 hA.2.1 rfl (rm_ok (M' := MX1_drawAll) hR (by decide)) (Nat.le_of_ble_eq_true rfl) (fun v9 S9 h9 => ?_)
    obtain ⟨rfl, hA9, hf9⟩ := h9
    refine g_n0 [] rfl rfl rfl ?_
    refine n_iinc C (by rw [hmL]; decide) dX1_drawAll_73 rfl (n_i1 _) [.ref a, .int (seed), .int (drw seed (n * 3 + (i + 1))), .int (nI (i + 1))] ?_
    refine g_goto C 41 dX1_drawAll_76 (by decide) ?_
    have hq := fset_ok F hz.1 i (by omega) (decide (dv seed (n * 3 + i) 2 = 1))
    refine ih (i + 1) _ _ (by omega) hA9 (hf.tr hf9) ⟨hq.1, fun j hj => ?_⟩
    rw [hq.2 j hj]
    by_cases e : j = i
    · subst e; rw [if_pos rfl, if_pos (by omega)]
    · rw [if_neg e, hz.2 j hj]
      by_cases e2 : j < i
      · rw [if_pos e2, if_pos (by omega)]
      · rw [if_neg e2, if_neg (by omega)]

set_option maxRecDepth 100000 in
theorem c_X1_drawAll (l : Launch) {a t n F : Nat} {T : Nat → Nat} {S : pv_M} (hA : AutoAt S a t n T F) {seed : Int32} (h0 : 0 < n) (h6 : n ≤ 6) (h64 : F < 64) : mt l MX1_drawAll 106 [.ref a, .int (seed)] S (fun w S' => w = none ∧ FN (two a t) S S' ∧ ∃ T' F', AutoAt S' a t n T' F' ∧ (∀ j, j < 18 → T' j = if j < n * 3 then dv seed j n else T j) ∧ F' < 64 ∧ ∀ j, j < 6 → F'.testBit j = if j < n then decide (dv seed (n * 3 + j) 2 = 1) else F.testBit j) := by
  refine mt_of (by decide) (Nat.le_of_ble_eq_true rfl) ?_
  intro x hl hR hmL C E
  show GG x 106 0 0 [.ref a, .int (seed), unk, unk] [] S 0
  refine g_iload_n C dX1_drawAll_0 rfl ?_
  refine g_istore_n C (by rw [hmL]; decide) dX1_drawAll_1 [.ref a, .int (seed), .int (seed), unk] rfl ?_
  refine n_iconst C 0 dX1_drawAll_2 ?_
  refine g_istore_n C (by rw [hmL]; decide) dX1_drawAll_3 [.ref a, .int (seed), .int (seed), .int (nI (0))] rfl ?_
  refine lp_X1_drawAll_4 hR hmL C (S0 := S) (T0 := T) h0 h6 (fun S1 T1 hA1 hf1 hz1 => ?_) (n * 3) 0 T S (by omega) hA FN.rf (fun j hj => by rw [if_neg (by omega)])
  refine n_iconst C 0 dX1_drawAll_39 ?_
  refine g_istore_n C (by rw [hmL]; decide) dX1_drawAll_40 [.ref a, .int seed, .int (drw seed (n * 3 + 0)), .int (nI 0)] rfl ?_
  refine lp_X1_drawAll_41 hR hmL C (S0 := S) (F0 := F) h0 h6 (fun S2 F2 hA2 hf2 hz2 => ?_) n 0 F S1 (by omega) hA1 hf1 ⟨h64, fun j hj => by rw [if_neg (by omega)]⟩
  exact g_vret C E dX1_drawAll_79 (by rw [hR]; decide) (by rw [hR]; decide) ⟨rfl, hf2, T1, F2, hA2, hz1, hz2.1, hz2.2⟩

theorem witT0 {n i : Nat} (h : i < n) : witT n (i * 3 + 0) = if i = n - 1 then 0 else i + 1 := by
  have e : (i * 3 + 0) / 3 = i := by omega
  have m : (i * 3 + 0) % 3 = 0 := by omega
  unfold witT
  rw [e, if_pos h, if_pos m]
theorem witT1 {n i : Nat} (h : i < n) : witT n (i * 3 + 1) = if i < 2 ∧ 1 < n then 1 - i else i := by
  have e : (i * 3 + 1) / 3 = i := by omega
  have m : (i * 3 + 1) % 3 = 1 := by omega
  have m0 : ¬ (i * 3 + 1) % 3 = 0 := by omega
  unfold witT
  rw [e, if_pos h, if_neg m0, if_pos m]
theorem witT2 {n i : Nat} (h : i < n) : witT n (i * 3 + 2) = if i = n - 1 then 0 else i := by
  have e : (i * 3 + 2) / 3 = i := by omega
  have m0 : ¬ (i * 3 + 2) % 3 = 0 := by omega
  have m1 : ¬ (i * 3 + 2) % 3 = 1 := by omega
  unfold witT
  rw [e, if_pos h, if_neg m0, if_neg m1]

set_option maxRecDepth 100000 in
theorem lp_X1_becomeWitness {x : Cx} (hR : xR x = MX1_becomeWitness.rm) (hmL : (xc x).maxLocals = MX1_becomeWitness.nL) (C : BX x cX1_becomeWitness RX1) {a t n : Nat} {S0 : pv_M} (h0 : 0 < n) (h6 : n ≤ 6) (k : ∀ S T, AutoAt S a t n T 0 → FN (two a t) S0 S → (∀ j, j < 18 → T j = if j / 3 < n then witT n j else 0) → GG x 106 0 0 [.ref a, .int (nI (n)), .int (nI (n - 1)), .int (nI (n))] [] (S) 79) : ∀ d i (T : Nat → Nat) (S : pv_M), i + d = n → AutoAt S a t n T 0 → FN (two a t) S0 S → (∀ j, j < 18 → T j = if j / 3 < i then witT n j else 0) → GG x 106 0 0 [.ref a, .int (nI (n)), .int (nI (n - 1)), .int (nI (i))] [] (S) 11 := by
  intro d
  induction d with
  | zero =>
    intro i T S hi hA hf hz
    obtain rfl : i = n := by omega
    refine g_iload_n C dX1_becomeWitness_11 rfl ?_
    refine g_iload_n C dX1_becomeWitness_12 rfl ?_
    refine n_ic_ge C 79 dX1_becomeWitness_13 (fun h13 => ?_) (fun h13 => absurd h13 (by omega))
    exact k S T hA hf hz
  | succ d ih =>
    intro i T S hi hA hf hz
    refine g_iload_n C dX1_becomeWitness_11 rfl ?_
    refine g_iload_n C dX1_becomeWitness_12 rfl ?_
    refine n_ic_ge C 79 dX1_becomeWitness_13 (fun h13 => absurd h13 (by omega)) (fun h13 => ?_)
    refine g_aload_n C dX1_becomeWitness_16 rfl ?_
    refine g_iload_n C dX1_becomeWitness_17 rfl ?_
    refine n_iconst C 0 dX1_becomeWitness_18 ?_
    refine g_iload_n C dX1_becomeWitness_19 rfl ?_
    refine g_iload_n C dX1_becomeWitness_20 rfl ?_
    suffices K31 : GG x 106 0 0 [.ref a, .int (nI (n)), .int (nI (n - 1)), .int (nI (i))] [.int (nI (if i = n - 1 then 0 else i + 1)), .int (nI (0)), .int (nI (i)), .ref a] S 31 from by
      refine n_ic_ne C 28 dX1_becomeWitness_21 (fun h21 => ?_) (fun h21 => ?_)
      · refine g_iload_n C dX1_becomeWitness_28 rfl ?_
        refine n_iconst C 1 dX1_becomeWitness_29 ?_
        refine n_iadd C dX1_becomeWitness_30 ?_
        first | (rw [if_pos (by omega)] at K31; exact K31) | (rw [if_neg (by omega)] at K31; exact K31)
      · refine n_iconst C 0 dX1_becomeWitness_24 ?_
        refine g_goto C 31 dX1_becomeWitness_25 (by decide) ?_
        first | (rw [if_pos (by omega)] at K31; exact K31) | (rw [if_neg (by omega)] at K31; exact K31)
    refine g_callV C (As := [.int (nI (i)), .int (nI (0)), .int (nI (if i = n - 1 then 0 else i + 1))]) (c_X1_lead _ hA (by omega)) vo_X1_56 dX1_becomeWitness_31 rfl hA.1 hA.2.1 rfl (rm_ok (M' := MX1_becomeWitness) hR (by decide)) (Nat.le_of_ble_eq_true rfl) (fun v9 S9 h9 => ?_)
    obtain ⟨rfl, hA, hf9⟩ := h9
    replace hf := hf.tr hf9
    clear hf9
    refine g_n0 [] rfl rfl rfl ?_
    refine g_aload_n C dX1_becomeWitness_34 rfl ?_
    refine g_iload_n C dX1_becomeWitness_35 rfl ?_
    refine n_iconst C 1 dX1_becomeWitness_36 ?_
    refine g_iload_n C dX1_becomeWitness_37 rfl ?_
    refine n_iconst C 2 dX1_becomeWitness_38 ?_
    suffices K54 : GG x 106 0 0 [.ref a, .int (nI (n)), .int (nI (n - 1)), .int (nI (i))] [.int (nI (if i < 2 ∧ 1 < n then 1 - i else i)), .int (nI (1)), .int (nI (i)), .ref a] S9 54 from by
      refine n_ic_ge C 53 dX1_becomeWitness_39 (fun h39 => ?_) (fun h39 => ?_)
      · refine g_iload_n C dX1_becomeWitness_53 rfl ?_
        first | (rw [if_pos (by omega)] at K54; exact K54) | (rw [if_neg (by omega)] at K54; exact K54)
      · refine g_iload_n C dX1_becomeWitness_42 rfl ?_
        refine n_iconst C 1 dX1_becomeWitness_43 ?_
        refine n_ic_le C 53 dX1_becomeWitness_44 (fun h44 => ?_) (fun h44 => ?_)
        · refine g_iload_n C dX1_becomeWitness_53 rfl ?_
          first | (rw [if_pos (by omega)] at K54; exact K54) | (rw [if_neg (by omega)] at K54; exact K54)
        · refine n_iconst C 1 dX1_becomeWitness_47 ?_
          refine g_iload_n C dX1_becomeWitness_48 rfl ?_
          refine n_isub C dX1_becomeWitness_49 ?_
          refine g_goto C 54 dX1_becomeWitness_50 (by decide) ?_
          first | (rw [if_pos (by omega)] at K54; exact K54) | (rw [if_neg (by omega)] at K54; exact K54)
    refine g_callV C (As := [.int (nI (i)), .int (nI (1)), .int (nI (if i < 2 ∧ 1 < n then 1 - i else i))]) (c_X1_lead _ hA (by omega)) vo_X1_56 dX1_becomeWitness_54 rfl hA.1 hA.2.1 rfl (rm_ok (M' := MX1_becomeWitness) hR (by decide)) (Nat.le_of_ble_eq_true rfl) (fun v9 S9 h9 => ?_)
    obtain ⟨rfl, hA, hf9⟩ := h9
    replace hf := hf.tr hf9
    clear hf9
    refine g_n0 [] rfl rfl rfl ?_
    refine g_aload_n C dX1_becomeWitness_57 rfl ?_
    refine g_iload_n C dX1_becomeWitness_58 rfl ?_
    refine n_iconst C 2 dX1_becomeWitness_59 ?_
    refine g_iload_n C dX1_becomeWitness_60 rfl ?_
    refine g_iload_n C dX1_becomeWitness_61 rfl ?_
    suffices K70 : GG x 106 0 0 [.ref a, .int (nI (n)), .int (nI (n - 1)), .int (nI (i))] [.int (nI (if i = n - 1 then 0 else i)), .int (nI (2)), .int (nI (i)), .ref a] S9 70 from by
      refine n_ic_ne C 69 dX1_becomeWitness_62 (fun h62 => ?_) (fun h62 => ?_)
      · refine g_iload_n C dX1_becomeWitness_69 rfl ?_
        first | (rw [if_pos (by omega)] at K70; exact K70) | (rw [if_neg (by omega)] at K70; exact K70)
      · refine n_iconst C 0 dX1_becomeWitness_65 ?_
        refine g_goto C 70 dX1_becomeWitness_66 (by decide) ?_
        first | (rw [if_pos (by omega)] at K70; exact K70) | (rw [if_neg (by omega)] at K70; exact K70)
    refine g_callV C (As := [.int (nI (i)), .int (nI (2)), .int (nI (if i = n - 1 then 0 else i))]) (c_X1_lead _ hA (by omega)) vo_X1_56 dX1_becomeWitness_70 rfl hA.1 hA.2.1 rfl (rm_ok (M' := MX1_becomeWitness) hR (by decide)) (Nat.le_of_ble_eq_true rfl) (fun v9 S9 h9 => ?_)
    obtain ⟨rfl, hA, hf9⟩ := h9
    replace hf := hf.tr hf9
    clear hf9
    refine g_n0 [] rfl rfl rfl ?_
    refine n_iinc C (by rw [hmL]; decide) dX1_becomeWitness_73 rfl (n_i1 _) [.ref a, .int (nI (n)), .int (nI (n - 1)), .int (nI (i + 1))] ?_
    refine g_goto C 11 dX1_becomeWitness_76 (by decide) ?_
    refine ih (i + 1) _ _ (by omega) hA hf (fun j hj => ?_)
    by_cases e : j / 3 = i
    · have e3 : j = i * 3 + 0 ∨ j = i * 3 + 1 ∨ j = i * 3 + 2 := by omega
      rw [if_pos (show j / 3 < i + 1 by omega)]
      rcases e3 with e3 | e3 | e3
      · rw [e3, witT0 (by omega), va_up_ne _ _ (by omega), va_up_ne _ _ (by omega), up_same]
      · rw [e3, witT1 (by omega), va_up_ne _ _ (by omega), up_same]
      · rw [e3, witT2 (by omega), up_same]
    · rw [va_up_ne _ _ (by omega), va_up_ne _ _ (by omega), va_up_ne _ _ (by omega), hz j hj]
      by_cases e2 : j / 3 < i
      · rw [if_pos e2, if_pos (show j / 3 < i + 1 by omega)]
      · rw [if_neg e2, if_neg (show ¬ j / 3 < i + 1 by omega)]

set_option maxRecDepth 100000 in
theorem c_X1_becomeWitness (l : Launch) {a t n F : Nat} {T : Nat → Nat} {S : pv_M} (hA : AutoAt S a t n T F) {m : Nat} (h0 : 0 < m) (h6 : m ≤ 6) : mt l MX1_becomeWitness 106 [.ref a, .int (nI (m))] S (fun w S' => w = none ∧ AutoAt S' a t m (witT m) (fset 0 (m - 1) true) ∧ FN (two a t) S S') := by
  refine mt_of (by decide) (Nat.le_of_ble_eq_true rfl) ?_
  intro x hl hR hmL C E
  show GG x 106 0 0 [.ref a, .int (nI (m)), unk, unk] [] S 0
  refine g_aload_n C dX1_becomeWitness_0 rfl ?_
  refine g_iload_n C dX1_becomeWitness_1 rfl ?_
  refine g_callV C (As := [.int (nI (m))]) (c_X1_clear _ hA) vo_X1_52 dX1_becomeWitness_2 rfl hA.1 hA.2.1 rfl (rm_ok (M' := MX1_becomeWitness) hR (by decide)) (Nat.le_of_ble_eq_true rfl) (fun v9 S9 h9 => ?_)
  obtain ⟨rfl, hA1, hf1⟩ := h9
  refine g_n0 [] rfl rfl rfl ?_
  refine g_iload_n C dX1_becomeWitness_5 rfl ?_
  refine n_iconst C 1 dX1_becomeWitness_6 ?_
  refine n_isub C dX1_becomeWitness_7 ?_
  refine g_istore_n C (by rw [hmL]; decide) dX1_becomeWitness_8 [.ref a, .int (nI (m)), .int (nI ((m) - (1))), unk] rfl ?_
  refine n_iconst C 0 dX1_becomeWitness_9 ?_
  refine g_istore_n C (by rw [hmL]; decide) dX1_becomeWitness_10 [.ref a, .int (nI (m)), .int (nI ((m) - (1))), .int (nI (0))] rfl ?_
  refine lp_X1_becomeWitness hR hmL C (S0 := S) h0 h6 (fun S1 T1 hA2 hf2 hz2 => ?_) m 0 _ S9 (by omega) hA1 hf1 (fun j hj => by rw [if_neg (by omega)])
  have hA3 : AutoAt S1 a t m (witT m) 0 := hA2.ext (fun j hj => by rw [hz2 j hj]; by_cases e : j / 3 < m; rw [if_pos e]; rw [if_neg e]; unfold witT; rw [if_neg e])
  refine g_aload_n C dX1_becomeWitness_79 rfl ?_
  refine g_iload_n C dX1_becomeWitness_80 rfl ?_
  refine g_iconst C (bI true) dX1_becomeWitness_81 (by decide) ?_
  refine g_callV C (As := [.int (nI (m - 1)), .int (bI true)]) (c_X1_mark _ hA3 (by decide) (by omega)) vo_X1_47 dX1_becomeWitness_82 rfl hA3.1 hA3.2.1 rfl (rm_ok (M' := MX1_becomeWitness) hR (by decide)) (Nat.le_of_ble_eq_true rfl) (fun v9 S9 h9 => ?_)
  obtain ⟨rfl, hA4, hf4⟩ := h9
  refine g_n0 [] rfl rfl rfl ?_
  exact g_vret C E dX1_becomeWitness_85 (by rw [hR]; decide) (by rw [hR]; decide) ⟨rfl, hA4, hf2.tr hf4⟩
