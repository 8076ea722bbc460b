/-- a machine that the class explores: cell m of class ci; codes below B, the start c0, the step, which codes accept -/
def pacc (op : Nat) (a b : Bool) : Bool := match op with
  | 0 => a || b
  | 1 => a && b
  | 2 => a && !b
  | _ => a != b
def cEnter (F : Nat) (s X : Nat) : Nat := s * 64 + (if F.testBit s then X ||| 1 else X)
theorem and64 {a b : Nat} (h : a < 64) : a &&& b < 64 := Nat.lt_of_le_of_lt Nat.and_le_left h
theorem and64r {a b : Nat} (h : b < 64) : a &&& b < 64 := Nat.lt_of_le_of_lt Nat.and_le_right h

set_option maxRecDepth 100000 in
theorem c_X0_codeBound (l : Launch) {S : pv_M} : mt l MX0_codeBound 106 [.ref 37] S (fun v S' => v = some (.int (nI 64)) ∧ S' = S) := by
  refine mt_of (by decide) (Nat.le_of_ble_eq_true rfl) ?_
  intro x hl hR hmL C E
  show GG x 106 0 0 [.ref 37] [] S 0
  refine n_bipush C 64 dX0_codeBound_0 ?_
  exact g_iret C E dX0_codeBound_2 (by rw [hR]; decide) (by rw [hR]; decide) ⟨rfl, rfl⟩

set_option maxRecDepth 100000 in
theorem c_X0_startCode (l : Launch) {S : pv_M} {n F : Nat} {T : Nat → Nat} (hb : mR S 37 0 = some 38) (hA : AutoAt S 38 39 n T F) : mt l MX0_startCode 106 [.ref 37] S (fun v S' => v = some (.int (nI F)) ∧ S' = S) := by
  refine mt_of (by decide) (Nat.le_of_ble_eq_true rfl) ?_
  intro x hl hR hmL C E
  show GG x 106 0 0 [.ref 37] [] S 0
  refine g_aload_n C dX0_startCode_0 rfl ?_
  refine g_getR C fo_X0_12 dX0_startCode_1 rfl (by decide) (fun _ => rfl) hb ?_
  refine g_getI C fo_X0_66 dX0_startCode_4 rfl (by decide) (fun _ => rfl) hA.2.2.2.2.2.2.1 ?_
  exact g_iret C E dX0_startCode_7 (by rw [hR]; decide) (by rw [hR]; decide) ⟨rfl, rfl⟩

set_option maxRecDepth 100000 in
theorem c_X0_follow (l : Launch) {S : pv_M} (hw : mR S 37 3 = some 42) (hM : SMAt S 42 43) {X q y : Nat} (h1 : q < 3) (h2 : X < 64) (hy : mI S 43 (q * 64 + X) = nI y) : mt l MX0_follow 106 [.ref 37, .int (nI (X)), .int (nI (q))] S (fun v S' => v = some (.int (nI y)) ∧ S' = S) := by
  refine mt_of (by decide) (Nat.le_of_ble_eq_true rfl) ?_
  intro x hl hR hmL C E
  show GG x 106 0 0 [.ref 37, .int (nI (X)), .int (nI (q))] [] S 0
  refine g_aload_n C dX0_follow_0 rfl ?_
  refine g_getR C fo_X0_25 dX0_follow_1 rfl (by decide) (fun _ => rfl) hw ?_
  refine g_iload_n C dX0_follow_4 rfl ?_
  refine g_iload_n C dX0_follow_5 rfl ?_
  refine g_callV C (As := [.int (nI (q)), .int (nI (X))]) (c_X8_of _ hM h1 h2 hy) vo_X0_69 dX0_follow_6 rfl rfl (by decide) rfl (rm_ok (M' := MX0_follow) hR (by decide)) (Nat.le_of_ble_eq_true rfl) (fun v9 S9 h9 => ?_)
  obtain ⟨rfl, h9⟩ := h9
  refine g_S S h9 ?_
  refine g_n0 [.int (nI (y))] rfl rfl rfl ?_
  exact g_iret C E dX0_follow_9 (by rw [hR]; decide) (by rw [hR]; decide) ⟨rfl, rfl⟩

set_option maxRecDepth 100000 in
theorem c_X0_isAccepting (l : Launch) {S : pv_M} {X : Nat} (h2 : X < 64) : mt l MX0_isAccepting 106 [.ref 37, .int (nI (X))] S (fun v S' => v = some (.int (bI (decide (X &&& 1 = 1)))) ∧ S' = S) := by
  refine mt_of (by decide) (Nat.le_of_ble_eq_true rfl) ?_
  intro x hl hR hmL C E
  show GG x 106 0 0 [.ref 37, .int (nI (X))] [] S 0
  have hq := and64 (b := 1) h2
  refine g_iload_n C dX0_isAccepting_0 rfl ?_
  refine n_iconst C 1 dX0_isAccepting_1 ?_
  refine n_iand C dX0_isAccepting_2 ?_
  refine n_iconst C 1 dX0_isAccepting_3 ?_
  suffices K12 : GG x 106 0 0 [.ref 37, .int (nI (X))] [.int (bI (decide (X &&& 1 = 1)))] S 12 from by
    refine n_ic_ne C 11 dX0_isAccepting_4 (fun h4 => ?_) (fun h4 => ?_)
    · refine n_iconst C 0 dX0_isAccepting_11 ?_
      rw [decide_eq_false h4] at K12
      exact K12
    · refine n_iconst C 1 dX0_isAccepting_7 ?_
      refine g_goto C 12 dX0_isAccepting_8 (by decide) ?_
      rw [decide_eq_true h4] at K12
      exact K12
  exact g_zret C E dX0_isAccepting_12 (bI_01 _) (by rw [hR]; decide) (by rw [hR]; decide) ⟨rfl, rfl⟩

set_option maxRecDepth 100000 in
theorem c_X6_codeBound (l : Launch) {S : pv_M} : mt l MX6_codeBound 106 [.ref 8] S (fun v S' => v = some (.int (nI 36)) ∧ S' = S) := by
  refine mt_of (by decide) (Nat.le_of_ble_eq_true rfl) ?_
  intro x hl hR hmL C E
  show GG x 106 0 0 [.ref 8] [] S 0
  refine n_bipush C 36 dX6_codeBound_0 ?_
  exact g_iret C E dX6_codeBound_2 (by rw [hR]; decide) (by rw [hR]; decide) ⟨rfl, rfl⟩

set_option maxRecDepth 100000 in
theorem c_X6_startCode (l : Launch) {S : pv_M} : mt l MX6_startCode 106 [.ref 8] S (fun v S' => v = some (.int (nI 0)) ∧ S' = S) := by
  refine mt_of (by decide) (Nat.le_of_ble_eq_true rfl) ?_
  intro x hl hR hmL C E
  show GG x 106 0 0 [.ref 8] [] S 0
  refine n_iconst C 0 dX6_startCode_0 ?_
  exact g_iret C E dX6_startCode_1 (by rw [hR]; decide) (by rw [hR]; decide) ⟨rfl, rfl⟩

set_option maxRecDepth 100000 in
theorem c_X6_follow (l : Launch) {S : pv_M} {op a t n F b u m G : Nat} {T V : Nat → Nat} (p0 : mI S 8 0 = nI op) (p1 : mR S 8 1 = some a) (p2 : mR S 8 2 = some b) (hA : AutoAt S a t n T F) (hB : AutoAt S b u m V G) {c q : Nat} (h1 : q < 3) (h2 : c < 36) : mt l MX6_follow 106 [.ref 8, .int (nI (c)), .int (nI (q))] S (fun v S' => v = some (.int (nI (T (c / 6 * 3 + q) * 6 + V (c % 6 * 3 + q)))) ∧ S' = S) := by
  refine mt_of (by decide) (Nat.le_of_ble_eq_true rfl) ?_
  intro x hl hR hmL C E
  show GG x 106 0 0 [.ref 8, .int (nI (c)), .int (nI (q)), unk, unk] [] S 0
  refine g_aload_n C dX6_follow_0 rfl ?_
  refine g_getR C fo_X6_18 dX6_follow_1 rfl (by decide) (fun _ => rfl) p1 ?_
  refine g_iload_n C dX6_follow_4 rfl ?_
  refine n_bipush C 6 dX6_follow_5 ?_
  refine n_idiv C dX6_follow_7 ?_
  refine g_iload_n C dX6_follow_8 rfl ?_
  refine g_callV C (As := [.int (nI ((c) / (6))), .int (nI (q))]) (c_X1_follow _ hA (by omega)) vo_X6_25 dX6_follow_9 rfl hA.1 hA.2.1 rfl (rm_ok (M' := MX6_follow) hR (by decide)) (Nat.le_of_ble_eq_true rfl) (fun v9 S9 h9 => ?_)
  obtain ⟨rfl, h9⟩ := h9
  refine g_S S h9 ?_
  refine g_n0 [.int (nI (T (c / 6 * 3 + q)))] rfl rfl rfl ?_
  refine g_istore_n C (by rw [hmL]; decide) dX6_follow_12 [.ref 8, .int (nI (c)), .int (nI (q)), .int (nI (T (c / 6 * 3 + q))), unk] rfl ?_
  refine g_aload_n C dX6_follow_13 rfl ?_
  refine g_getR C fo_X6_22 dX6_follow_14 rfl (by decide) (fun _ => rfl) p2 ?_
  refine g_iload_n C dX6_follow_17 rfl ?_
  refine n_bipush C 6 dX6_follow_18 ?_
  refine n_irem C dX6_follow_20 ?_
  refine g_iload_n C dX6_follow_21 rfl ?_
  refine g_callV C (As := [.int (nI ((c) % (6))), .int (nI (q))]) (c_X1_follow _ hB (by omega)) vo_X6_25 dX6_follow_22 rfl hB.1 hB.2.1 rfl (rm_ok (M' := MX6_follow) hR (by decide)) (Nat.le_of_ble_eq_true rfl) (fun v9 S9 h9 => ?_)
  obtain ⟨rfl, h9⟩ := h9
  refine g_S S h9 ?_
  refine g_n0 [.int (nI (V (c % 6 * 3 + q)))] rfl rfl rfl ?_
  refine g_istore C (by rw [hmL]; decide) dX6_follow_25 [.ref 8, .int (nI (c)), .int (nI (q)), .int (nI (T (c / 6 * 3 + q))), .int (nI (V (c % 6 * 3 + q)))] rfl ?_
  refine g_iload_n C dX6_follow_27 rfl ?_
  refine n_bipush C 6 dX6_follow_28 ?_
  refine n_imul C dX6_follow_30 ?_
  refine g_iload C dX6_follow_31 rfl ?_
  refine n_iadd C dX6_follow_33 ?_
  exact g_iret C E dX6_follow_34 (by rw [hR]; decide) (by rw [hR]; decide) ⟨rfl, rfl⟩

set_option maxRecDepth 100000 in
theorem c_X6_isAccepting (l : Launch) {S : pv_M} {op a t n F b u m G : Nat} {T V : Nat → Nat} (p0 : mI S 8 0 = nI op) (p1 : mR S 8 1 = some a) (p2 : mR S 8 2 = some b) (hA : AutoAt S a t n T F) (hB : AutoAt S b u m V G) {c : Nat} (hop : op < 4) (h2 : c < 36) (hF : F < 64) (hG : G < 64) : mt l MX6_isAccepting 106 [.ref 8, .int (nI c)] S (fun v S' => v = some (.int (bI (pacc op (F.testBit (c / 6)) (G.testBit (c % 6))))) ∧ S' = S) := by
  refine mt_of (by decide) (Nat.le_of_ble_eq_true rfl) ?_
  intro x hl hR hmL C E
  show GG x 106 0 0 [.ref 8, .int (nI c), unk, unk] [] S 0
  refine g_aload_n C dX6_isAccepting_0 rfl ?_
  refine g_getR C fo_X6_18 dX6_isAccepting_1 rfl (by decide) (fun _ => rfl) p1 ?_
  refine g_iload_n C dX6_isAccepting_4 rfl ?_
  refine n_bipush C 6 dX6_isAccepting_5 ?_
  refine n_idiv C dX6_isAccepting_7 ?_
  refine g_callV C (As := [.int (nI ((c) / (6)))]) (c_X1_isAccepting _ hA hF (by omega)) vo_X6_29 dX6_isAccepting_8 rfl hA.1 hA.2.1 rfl (rm_ok (M' := MX6_isAccepting) hR (by decide)) (Nat.le_of_ble_eq_true rfl) (fun v9 S9 h9 => ?_)
  obtain ⟨rfl, h9⟩ := h9
  refine g_S S h9 ?_
  refine g_n0 [.int (bI (F.testBit (c / 6)))] rfl rfl rfl ?_
  refine g_istore_n C (by rw [hmL]; decide) dX6_isAccepting_11 [.ref 8, .int (nI (c)), .int (bI (F.testBit (c / 6))), unk] rfl ?_
  refine g_aload_n C dX6_isAccepting_12 rfl ?_
  refine g_getR C fo_X6_22 dX6_isAccepting_13 rfl (by decide) (fun _ => rfl) p2 ?_
  refine g_iload_n C dX6_isAccepting_16 rfl ?_
  refine n_bipush C 6 dX6_isAccepting_17 ?_
  refine n_irem C dX6_isAccepting_19 ?_
  refine g_callV C (As := [.int (nI ((c) % (6)))]) (c_X1_isAccepting _ hB hG (by omega)) vo_X6_29 dX6_isAccepting_20 rfl hB.1 hB.2.1 rfl (rm_ok (M' := MX6_isAccepting) hR (by decide)) (Nat.le_of_ble_eq_true rfl) (fun v9 S9 h9 => ?_)
  obtain ⟨rfl, h9⟩ := h9
  refine g_S S h9 ?_
  refine g_n0 [.int (bI (G.testBit (c % 6)))] rfl rfl rfl ?_
  refine g_istore_n C (by rw [hmL]; decide) dX6_isAccepting_23 [.ref 8, .int (nI (c)), .int (bI (F.testBit (c / 6))), .int (bI (G.testBit (c % 6)))] rfl ?_
  refine g_aload_n C dX6_isAccepting_24 rfl ?_
  refine g_getI C fo_X6_9 dX6_isAccepting_25 rfl (by decide) (fun _ => rfl) p0 ?_
  have hop2 : op = 0 ∨ op = 1 ∨ op = 2 ∨ op = 3 := by omega
  rcases hop2 with rfl | rfl | rfl | rfl
  · refine g_table C 56 dX6_isAccepting_28 (by decide) (by decide) rfl (by decide) ?_
    refine g_iload_n C dX6_isAccepting_56 rfl ?_
    refine b_if_ne C 64 dX6_isAccepting_57 (fun h57 => ?_) (fun h57 => ?_)
    · refine n_iconst C 1 dX6_isAccepting_64 ?_
      refine g_goto C 69 dX6_isAccepting_65 (by decide) ?_
      exact g_zret C E dX6_isAccepting_69 (Or.inr rfl) (by rw [hR]; decide) (by rw [hR]; decide) ⟨by first | (rw [h57, h61]; rfl) | (rw [h57]; rfl) | (rw [h61]; rfl), rfl⟩
    · refine g_iload_n C dX6_isAccepting_60 rfl ?_
      refine b_if_eq C 68 dX6_isAccepting_61 (fun h61 => ?_) (fun h61 => ?_)
      · refine n_iconst C 0 dX6_isAccepting_68 ?_
        exact g_zret C E dX6_isAccepting_69 (Or.inl rfl) (by rw [hR]; decide) (by rw [hR]; decide) ⟨by first | (rw [h57, h61]; rfl) | (rw [h57]; rfl) | (rw [h61]; rfl), rfl⟩
      · refine n_iconst C 1 dX6_isAccepting_64 ?_
        refine g_goto C 69 dX6_isAccepting_65 (by decide) ?_
        exact g_zret C E dX6_isAccepting_69 (Or.inr rfl) (by rw [hR]; decide) (by rw [hR]; decide) ⟨by first | (rw [h57, h61]; rfl) | (rw [h57]; rfl) | (rw [h61]; rfl), rfl⟩
  · refine g_table C 70 dX6_isAccepting_28 (by decide) (by decide) rfl (by decide) ?_
    refine g_iload_n C dX6_isAccepting_70 rfl ?_
    refine b_if_eq C 82 dX6_isAccepting_71 (fun h71 => ?_) (fun h71 => ?_)
    · refine n_iconst C 0 dX6_isAccepting_82 ?_
      exact g_zret C E dX6_isAccepting_83 (Or.inl rfl) (by rw [hR]; decide) (by rw [hR]; decide) ⟨by first | (rw [h71, h75]; rfl) | (rw [h71]; rfl) | (rw [h75]; rfl), rfl⟩
    · refine g_iload_n C dX6_isAccepting_74 rfl ?_
      refine b_if_eq C 82 dX6_isAccepting_75 (fun h75 => ?_) (fun h75 => ?_)
      · refine n_iconst C 0 dX6_isAccepting_82 ?_
        exact g_zret C E dX6_isAccepting_83 (Or.inl rfl) (by rw [hR]; decide) (by rw [hR]; decide) ⟨by first | (rw [h71, h75]; rfl) | (rw [h71]; rfl) | (rw [h75]; rfl), rfl⟩
      · refine n_iconst C 1 dX6_isAccepting_78 ?_
        refine g_goto C 83 dX6_isAccepting_79 (by decide) ?_
        exact g_zret C E dX6_isAccepting_83 (Or.inr rfl) (by rw [hR]; decide) (by rw [hR]; decide) ⟨by first | (rw [h71, h75]; rfl) | (rw [h71]; rfl) | (rw [h75]; rfl), rfl⟩
  · refine g_table C 84 dX6_isAccepting_28 (by decide) (by decide) rfl (by decide) ?_
    refine g_iload_n C dX6_isAccepting_84 rfl ?_
    refine b_if_eq C 96 dX6_isAccepting_85 (fun h85 => ?_) (fun h85 => ?_)
    · refine n_iconst C 0 dX6_isAccepting_96 ?_
      exact g_zret C E dX6_isAccepting_97 (Or.inl rfl) (by rw [hR]; decide) (by rw [hR]; decide) ⟨by first | (rw [h85, h89]; rfl) | (rw [h85]; rfl) | (rw [h89]; rfl), rfl⟩
    · refine g_iload_n C dX6_isAccepting_88 rfl ?_
      refine b_if_ne C 96 dX6_isAccepting_89 (fun h89 => ?_) (fun h89 => ?_)
      · refine n_iconst C 0 dX6_isAccepting_96 ?_
        exact g_zret C E dX6_isAccepting_97 (Or.inl rfl) (by rw [hR]; decide) (by rw [hR]; decide) ⟨by first | (rw [h85, h89]; rfl) | (rw [h85]; rfl) | (rw [h89]; rfl), rfl⟩
      · refine n_iconst C 1 dX6_isAccepting_92 ?_
        refine g_goto C 97 dX6_isAccepting_93 (by decide) ?_
        exact g_zret C E dX6_isAccepting_97 (Or.inr rfl) (by rw [hR]; decide) (by rw [hR]; decide) ⟨by first | (rw [h85, h89]; rfl) | (rw [h85]; rfl) | (rw [h89]; rfl), rfl⟩
  · refine g_tableX C 98 dX6_isAccepting_28 (Or.inr (by decide)) (by decide) ?_
    refine g_iload_n C dX6_isAccepting_98 rfl ?_
    refine g_iload_n C dX6_isAccepting_99 rfl ?_
    refine g_ic_eq C 107 dX6_isAccepting_100 (by decide) (fun h => ?_) (fun h => ?_)
    · refine n_iconst C 0 dX6_isAccepting_107 ?_
      exact g_zret C E dX6_isAccepting_108 (Or.inl rfl) (by rw [hR]; decide) (by rw [hR]; decide) ⟨by revert h; cases F.testBit (c / 6) <;> cases G.testBit (c % 6) <;> intro h <;> first | rfl | exact absurd h (by decide), rfl⟩
    · refine n_iconst C 1 dX6_isAccepting_103 ?_
      refine g_goto C 108 dX6_isAccepting_104 (by decide) ?_
      exact g_zret C E dX6_isAccepting_108 (Or.inr rfl) (by rw [hR]; decide) (by rw [hR]; decide) ⟨by revert h; cases F.testBit (c / 6) <;> cases G.testBit (c % 6) <;> intro h <;> first | rfl | exact absurd rfl h, rfl⟩

set_option maxRecDepth 100000 in
theorem c_X6_prepare (l : Launch) {S : pv_M} {op a b : Nat} (la : a < 106) (lb : b < 106) : mt l MX6_prepare 106 [.ref 8, .int (nI (op)), .ref a, .ref b] S (fun v S' => v = none ∧ S' = wR (wR (wI S 8 (va_up (mI S 8) 0 (nI op))) 8 (va_up (mR (wI S 8 (va_up (mI S 8) 0 (nI op))) 8) 1 (some a))) 8 (va_up (mR (wR (wI S 8 (va_up (mI S 8) 0 (nI op))) 8 (va_up (mR (wI S 8 (va_up (mI S 8) 0 (nI op))) 8) 1 (some a))) 8) 2 (some b))) := by
  refine mt_of (by decide) (Nat.le_of_ble_eq_true rfl) ?_
  intro x hl hR hmL C E
  show GG x 106 0 0 [.ref 8, .int (nI (op)), .ref a, .ref b] [] S 0
  refine g_aload_n C dX6_prepare_0 rfl ?_
  refine g_iload_n C dX6_prepare_1 rfl ?_
  refine g_putI C fo_X6_9 dX6_prepare_2 rfl (by decide) rfl ?_
  refine g_aload_n C dX6_prepare_5 rfl ?_
  refine g_aload_n C dX6_prepare_6 rfl ?_
  refine g_putR C fo_X6_18 dX6_prepare_7 rfl (by decide) la (Or.inl ⟨_, rfl⟩) ?_
  refine g_aload_n C dX6_prepare_10 rfl ?_
  refine g_aload_n C dX6_prepare_11 rfl ?_
  refine g_putR C fo_X6_22 dX6_prepare_12 rfl (by decide) lb (Or.inl ⟨_, rfl⟩) ?_
  exact g_vret C E dX6_prepare_15 (by rw [hR]; decide) (by rw [hR]; decide) ⟨rfl, rfl⟩

set_option maxRecDepth 100000 in
theorem c_X2_codeBound (l : Launch) {S : pv_M} : mt l MX2_codeBound 106 [.ref 11] S (fun v S' => v = some (.int (nI 384)) ∧ S' = S) := by
  refine mt_of (by decide) (Nat.le_of_ble_eq_true rfl) ?_
  intro x hl hR hmL C E
  show GG x 106 0 0 [.ref 11] [] S 0
  refine n_sipush C 384 dX2_codeBound_0 ?_
  exact g_iret C E dX2_codeBound_3 (by rw [hR]; decide) (by rw [hR]; decide) ⟨rfl, rfl⟩

set_option maxRecDepth 100000 in
theorem c_X2_enter (l : Launch) {S : pv_M} {a t n F : Nat} {T : Nat → Nat} (p1 : mR S 11 0 = some a) (hA : AutoAt S a t n T F) (hF : F < 64) {s X : Nat} (h1 : s < 6) (h2 : X < 64) : mt l MX2_enter 106 [.ref 11, .int (nI (s)), .int (nI (X))] S (fun v S' => v = some (.int (nI (cEnter F s X))) ∧ S' = S) := by
  refine mt_of (by decide) (Nat.le_of_ble_eq_true rfl) ?_
  intro x hl hR hmL C E
  show GG x 106 0 0 [.ref 11, .int (nI (s)), .int (nI (X))] [] S 0
  refine g_iload_n C dX2_enter_0 rfl ?_
  refine n_bipush C 64 dX2_enter_1 ?_
  refine n_imul C dX2_enter_3 ?_
  refine g_aload_n C dX2_enter_4 rfl ?_
  refine g_getR C fo_X2_12 dX2_enter_5 rfl (by decide) (fun _ => rfl) p1 ?_
  refine g_iload_n C dX2_enter_8 rfl ?_
  refine g_callV C (As := [.int (nI (s))]) (c_X1_isAccepting _ hA hF h1) vo_X2_46 dX2_enter_9 rfl hA.1 hA.2.1 rfl (rm_ok (M' := MX2_enter) hR (by decide)) (Nat.le_of_ble_eq_true rfl) (fun v9 S9 h9 => ?_)
  obtain ⟨rfl, h9⟩ := h9
  refine g_S S h9 ?_
  refine g_n0 [.int (bI (F.testBit s)), .int (nI ((s) * (64)))] rfl rfl rfl ?_
  suffices K22 : GG x 106 0 0 [.ref 11, .int (nI (s)), .int (nI (X))] [.int (nI (if F.testBit s then X ||| 1 else X)), .int (nI ((s) * (64)))] S 22 from by
    refine b_if_eq C 21 dX2_enter_12 (fun h12 => ?_) (fun h12 => ?_)
    · refine g_iload_n C dX2_enter_21 rfl ?_
      rw [h12] at K22
      exact K22
    · refine g_iload_n C dX2_enter_15 rfl ?_
      refine n_iconst C 1 dX2_enter_16 ?_
      refine n_ior C dX2_enter_17 ?_
      refine g_goto C 22 dX2_enter_18 (by decide) ?_
      rw [h12] at K22
      exact K22
  refine n_iadd C dX2_enter_22 ?_
  exact g_iret C E dX2_enter_23 (by rw [hR]; decide) (by rw [hR]; decide) ⟨rfl, rfl⟩

set_option maxRecDepth 100000 in
theorem c_X2_startCode (l : Launch) {S : pv_M} {a t n F : Nat} {T : Nat → Nat} (p1 : mR S 11 0 = some a) (hA : AutoAt S a t n T F) (hF : F < 64) : mt l MX2_startCode 106 [.ref 11] S (fun v S' => v = some (.int (nI (cEnter F 0 0))) ∧ S' = S) := by
  refine mt_of (by decide) (Nat.le_of_ble_eq_true rfl) ?_
  intro x hl hR hmL C E
  show GG x 106 0 0 [.ref 11] [] S 0
  refine g_aload_n C dX2_startCode_0 rfl ?_
  refine n_iconst C 0 dX2_startCode_1 ?_
  refine n_iconst C 0 dX2_startCode_2 ?_
  refine g_callV C (As := [.int (nI (0)), .int (nI (0))]) (c_X2_enter _ p1 hA hF (by decide) (by decide)) vo_X2_36 dX2_startCode_3 rfl rfl (by decide) rfl (rm_ok (M' := MX2_startCode) hR (by decide)) (Nat.le_of_ble_eq_true rfl) (fun v9 S9 h9 => ?_)
  obtain ⟨rfl, h9⟩ := h9
  refine g_S S h9 ?_
  refine g_n0 [.int (nI (cEnter F 0 0))] rfl rfl rfl ?_
  exact g_iret C E dX2_startCode_6 (by rw [hR]; decide) (by rw [hR]; decide) ⟨rfl, rfl⟩

set_option maxRecDepth 100000 in
theorem c_X2_follow (l : Launch) {S : pv_M} {a t n F : Nat} {T : Nat → Nat} (p1 : mR S 11 0 = some a) (hA : AutoAt S a t n T F) (hF : F < 64) (p2 : mR S 11 2 = some 14) (hM : SMAt S 14 15) {c q y : Nat} (h1 : q < 3) (h2 : c < 384) (h3 : T (c / 64 * 3 + q) < 6) (hy : mI S 15 (q * 64 + c % 64) = nI y) (h4 : y < 64) : mt l MX2_follow 106 [.ref 11, .int (nI (c)), .int (nI (q))] S (fun v S' => v = some (.int (nI (cEnter F (T (c / 64 * 3 + q)) y))) ∧ S' = S) := by
  refine mt_of (by decide) (Nat.le_of_ble_eq_true rfl) ?_
  intro x hl hR hmL C E
  show GG x 106 0 0 [.ref 11, .int (nI (c)), .int (nI (q))] [] S 0
  refine g_aload_n C dX2_follow_0 rfl ?_
  refine g_aload_n C dX2_follow_1 rfl ?_
  refine g_getR C fo_X2_12 dX2_follow_2 rfl (by decide) (fun _ => rfl) p1 ?_
  refine g_iload_n C dX2_follow_5 rfl ?_
  refine n_bipush C 64 dX2_follow_6 ?_
  refine n_idiv C dX2_follow_8 ?_
  refine g_iload_n C dX2_follow_9 rfl ?_
  refine g_callV C (As := [.int (nI ((c) / (64))), .int (nI (q))]) (c_X1_follow _ hA (by omega)) vo_X2_40 dX2_follow_10 rfl hA.1 hA.2.1 rfl (rm_ok (M' := MX2_follow) hR (by decide)) (Nat.le_of_ble_eq_true rfl) (fun v9 S9 h9 => ?_)
  obtain ⟨rfl, h9⟩ := h9
  refine g_S S h9 ?_
  refine g_n0 [.int (nI (T (c / 64 * 3 + q))), .ref 11] rfl rfl rfl ?_
  refine g_aload_n C dX2_follow_13 rfl ?_
  refine g_getR C fo_X2_25 dX2_follow_14 rfl (by decide) (fun _ => rfl) p2 ?_
  refine g_iload_n C dX2_follow_17 rfl ?_
  refine g_iload_n C dX2_follow_18 rfl ?_
  refine n_bipush C 64 dX2_follow_19 ?_
  refine n_irem C dX2_follow_21 ?_
  refine g_callV C (As := [.int (nI (q)), .int (nI ((c) % (64)))]) (c_X8_of _ hM h1 (by omega) hy) vo_X2_43 dX2_follow_22 rfl rfl (by decide) rfl (rm_ok (M' := MX2_follow) hR (by decide)) (Nat.le_of_ble_eq_true rfl) (fun v9 S9 h9 => ?_)
  obtain ⟨rfl, h9⟩ := h9
  refine g_S S h9 ?_
  refine g_n0 [.int (nI (y)), .int (nI (T (c / 64 * 3 + q))), .ref 11] rfl rfl rfl ?_
  refine g_callV C (As := [.int (nI (T (c / 64 * 3 + q))), .int (nI (y))]) (c_X2_enter _ p1 hA hF h3 h4) vo_X2_36 dX2_follow_25 rfl rfl (by decide) rfl (rm_ok (M' := MX2_follow) hR (by decide)) (Nat.le_of_ble_eq_true rfl) (fun v9 S9 h9 => ?_)
  obtain ⟨rfl, h9⟩ := h9
  refine g_S S h9 ?_
  refine g_n0 [.int (nI (cEnter F (T (c / 64 * 3 + q)) y))] rfl rfl rfl ?_
  exact g_iret C E dX2_follow_28 (by rw [hR]; decide) (by rw [hR]; decide) ⟨rfl, rfl⟩

set_option maxRecDepth 100000 in
theorem c_X2_isAccepting (l : Launch) {S : pv_M} {c G : Nat} (p0 : mI S 11 1 = nI G) (hG : G < 64) (h2 : c < 384) : mt l MX2_isAccepting 106 [.ref 11, .int (nI (c))] S (fun v S' => v = some (.int (bI (decide (¬ (c % 64 &&& G) = 0)))) ∧ S' = S) := by
  refine mt_of (by decide) (Nat.le_of_ble_eq_true rfl) ?_
  intro x hl hR hmL C E
  show GG x 106 0 0 [.ref 11, .int (nI (c))] [] S 0
  have hq := and64r (a := c % 64) hG
  refine g_iload_n C dX2_isAccepting_0 rfl ?_
  refine n_bipush C 64 dX2_isAccepting_1 ?_
  refine n_irem C dX2_isAccepting_3 ?_
  refine g_aload_n C dX2_isAccepting_4 rfl ?_
  refine g_getI C fo_X2_18 dX2_isAccepting_5 rfl (by decide) (fun _ => rfl) p0 ?_
  refine n_iand C dX2_isAccepting_8 ?_
  suffices K17 : GG x 106 0 0 [.ref 11, .int (nI (c))] [.int (bI (decide (¬ (c % 64 &&& G) = 0)))] S 17 from by
    refine n_if_eq C 16 dX2_isAccepting_9 (fun h9 => ?_) (fun h9 => ?_)
    · refine n_iconst C 0 dX2_isAccepting_16 ?_
      rw [decide_eq_false (fun q => q h9)] at K17
      exact K17
    · refine n_iconst C 1 dX2_isAccepting_12 ?_
      refine g_goto C 17 dX2_isAccepting_13 (by decide) ?_
      rw [decide_eq_true h9] at K17
      exact K17
  exact g_zret C E dX2_isAccepting_17 (bI_01 _) (by rw [hR]; decide) (by rw [hR]; decide) ⟨rfl, rfl⟩

set_option maxRecDepth 100000 in
theorem c_X9_codeBound (l : Launch) {S : pv_M} : mt l MX9_codeBound 106 [.ref 16] S (fun v S' => v = some (.int (nI 65)) ∧ S' = S) := by
  refine mt_of (by decide) (Nat.le_of_ble_eq_true rfl) ?_
  intro x hl hR hmL C E
  show GG x 106 0 0 [.ref 16] [] S 0
  refine n_bipush C 65 dX9_codeBound_0 ?_
  exact g_iret C E dX9_codeBound_2 (by rw [hR]; decide) (by rw [hR]; decide) ⟨rfl, rfl⟩

set_option maxRecDepth 100000 in
theorem c_X9_startCode (l : Launch) {S : pv_M} : mt l MX9_startCode 106 [.ref 16] S (fun v S' => v = some (.int (nI 64)) ∧ S' = S) := by
  refine mt_of (by decide) (Nat.le_of_ble_eq_true rfl) ?_
  intro x hl hR hmL C E
  show GG x 106 0 0 [.ref 16] [] S 0
  refine n_bipush C 64 dX9_startCode_0 ?_
  exact g_iret C E dX9_startCode_2 (by rw [hR]; decide) (by rw [hR]; decide) ⟨rfl, rfl⟩

set_option maxRecDepth 100000 in
theorem c_X9_isAccepting (l : Launch) {S : pv_M} {G : Nat} (p0 : mI S 16 0 = nI G) (hG : G < 64) {c : Nat} (h2 : c < 65) : mt l MX9_isAccepting 106 [.ref 16, .int (nI (c))] S (fun v S' => v = some (.int (bI (decide (c = 64 ∨ ¬ (c &&& G) = 0)))) ∧ S' = S) := by
  refine mt_of (by decide) (Nat.le_of_ble_eq_true rfl) ?_
  intro x hl hR hmL C E
  show GG x 106 0 0 [.ref 16, .int (nI (c))] [] S 0
  have hq := and64r (a := c) hG
  refine g_iload_n C dX9_isAccepting_0 rfl ?_
  refine n_bipush C 64 dX9_isAccepting_1 ?_
  suffices K20 : GG x 106 0 0 [.ref 16, .int (nI (c))] [.int (bI (decide (c = 64 ∨ ¬ (c &&& G) = 0)))] S 20 from by
    refine n_ic_eq C 15 dX9_isAccepting_3 (fun h3 => ?_) (fun h3 => ?_)
    · refine n_iconst C 1 dX9_isAccepting_15 ?_
      refine g_goto C 20 dX9_isAccepting_16 (by decide) ?_
      rw [decide_eq_true (Or.inl h3)] at K20
      exact K20
    · refine g_iload_n C dX9_isAccepting_6 rfl ?_
      refine g_aload_n C dX9_isAccepting_7 rfl ?_
      refine g_getI C fo_X9_9 dX9_isAccepting_8 rfl (by decide) (fun _ => rfl) p0 ?_
      refine n_iand C dX9_isAccepting_11 ?_
      refine n_if_eq C 19 dX9_isAccepting_12 (fun h12 => ?_) (fun h12 => ?_)
      · refine n_iconst C 0 dX9_isAccepting_19 ?_
        first | (rw [decide_eq_true (Or.inr h12)] at K20; exact K20) | (rw [decide_eq_false (fun q => q.elim h3 (fun z => z h12))] at K20; exact K20)
      · refine n_iconst C 1 dX9_isAccepting_15 ?_
        refine g_goto C 20 dX9_isAccepting_16 (by decide) ?_
        first | (rw [decide_eq_true (Or.inr h12)] at K20; exact K20) | (rw [decide_eq_false (fun q => q.elim h3 (fun z => z h12))] at K20; exact K20)
  exact g_zret C E dX9_isAccepting_20 (bI_01 _) (by rw [hR]; decide) (by rw [hR]; decide) ⟨rfl, rfl⟩

set_option maxRecDepth 100000 in
theorem c_X9_follow (l : Launch) {S : pv_M} {G : Nat} (p0 : mI S 16 0 = nI G) (hG : G < 64) (p2 : mR S 16 1 = some 17) (hM : SMAt S 17 18) {c q y : Nat} (h1 : q < 3) (h2 : c < 65) (hy : mI S 18 (q * 64 + (if c = 64 then 1 else c)) = nI y) (h4 : y < 64) : mt l MX9_follow 106 [.ref 16, .int (nI (c)), .int (nI (q))] S (fun v S' => v = some (.int (nI (if (y &&& G) = 0 then y else y ||| 1))) ∧ S' = S) := by
  refine mt_of (by decide) (Nat.le_of_ble_eq_true rfl) ?_
  intro x hl hR hmL C E
  show GG x 106 0 0 [.ref 16, .int (nI (c)), .int (nI (q)), unk] [] S 0
  have hq := and64 (b := G) h4
  have hcc : (if c = 64 then 1 else c) < 64 := by by_cases e : c = 64; rw [if_pos e]; decide; rw [if_neg e]; omega
  refine g_aload_n C dX9_follow_0 rfl ?_
  refine g_getR C fo_X9_18 dX9_follow_1 rfl (by decide) (fun _ => rfl) p2 ?_
  refine g_iload_n C dX9_follow_4 rfl ?_
  refine g_iload_n C dX9_follow_5 rfl ?_
  refine n_bipush C 64 dX9_follow_6 ?_
  suffices K16 : GG x 106 0 0 [.ref 16, .int (nI (c)), .int (nI (q)), unk] [.int (nI (if c = 64 then 1 else c)), .int (nI (q)), .ref 17] S 16 from by
    refine n_ic_ne C 15 dX9_follow_8 (fun h8 => ?_) (fun h8 => ?_)
    · refine g_iload_n C dX9_follow_15 rfl ?_
      rw [if_neg h8] at K16
      exact K16
    · refine n_iconst C 1 dX9_follow_11 ?_
      refine g_goto C 16 dX9_follow_12 (by decide) ?_
      rw [if_pos h8] at K16
      exact K16
  refine g_callV C (As := [.int (nI (q)), .int (nI (if c = 64 then 1 else c))]) (c_X8_of _ hM h1 hcc hy) vo_X9_29 dX9_follow_16 rfl rfl (by decide) rfl (rm_ok (M' := MX9_follow) hR (by decide)) (Nat.le_of_ble_eq_true rfl) (fun v9 S9 h9 => ?_)
  obtain ⟨rfl, h9⟩ := h9
  refine g_S S h9 ?_
  refine g_n0 [.int (nI (y))] rfl rfl rfl ?_
  refine g_istore_n C (by rw [hmL]; decide) dX9_follow_19 [.ref 16, .int (nI (c)), .int (nI (q)), .int (nI (y))] rfl ?_
  refine g_iload_n C dX9_follow_20 rfl ?_
  refine g_aload_n C dX9_follow_21 rfl ?_
  refine g_getI C fo_X9_9 dX9_follow_22 rfl (by decide) (fun _ => rfl) p0 ?_
  refine n_iand C dX9_follow_25 ?_
  suffices K36 : GG x 106 0 0 [.ref 16, .int (nI (c)), .int (nI (q)), .int (nI (y))] [.int (nI (if (y &&& G) = 0 then y else y ||| 1))] S 36 from by
    refine n_if_eq C 35 dX9_follow_26 (fun h26 => ?_) (fun h26 => ?_)
    · refine g_iload_n C dX9_follow_35 rfl ?_
      rw [if_pos h26] at K36
      exact K36
    · refine g_iload_n C dX9_follow_29 rfl ?_
      refine n_iconst C 1 dX9_follow_30 ?_
      refine n_ior C dX9_follow_31 ?_
      refine g_goto C 36 dX9_follow_32 (by decide) ?_
      rw [if_neg h26] at K36
      exact K36
  exact g_iret C E dX9_follow_36 (by rw [hR]; decide) (by rw [hR]; decide) ⟨rfl, rfl⟩
